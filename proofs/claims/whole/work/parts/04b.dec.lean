theorem dX8_init_0 : decode cX8_init 0 = .ok (.aload_n 0, 1) := by decide +kernel
theorem dX8_init_1 : decode cX8_init 1 = .ok (.invokespecial 1, 3) := by decide +kernel
theorem dX8_init_4 : decode cX8_init 4 = .ok (.aload_n 0, 1) := by decide +kernel
theorem dX8_init_5 : decode cX8_init 5 = .ok (.sipush 512, 3) := by decide +kernel
theorem dX8_init_8 : decode cX8_init 8 = .ok (.newarray .int, 2) := by decide +kernel
theorem dX8_init_10 : decode cX8_init 10 = .ok (.putfield 7, 3) := by decide +kernel
theorem dX8_init_13 : decode cX8_init 13 = .ok (.aload_n 0, 1) := by decide +kernel
theorem dX8_init_14 : decode cX8_init 14 = .ok (.bipush 21, 2) := by decide +kernel
theorem dX8_init_16 : decode cX8_init 16 = .ok (.newarray .int, 2) := by decide +kernel
theorem dX8_init_18 : decode cX8_init 18 = .ok (.putfield 13, 3) := by decide +kernel
theorem dX8_init_21 : decode cX8_init 21 = .ok (.aload_n 0, 1) := by decide +kernel
theorem dX8_init_22 : decode cX8_init 22 = .ok (.bipush 21, 2) := by decide +kernel
theorem dX8_init_24 : decode cX8_init 24 = .ok (.newarray .boolean, 2) := by decide +kernel
theorem dX8_init_26 : decode cX8_init 26 = .ok (.putfield 16, 3) := by decide +kernel
theorem dX8_init_29 : decode cX8_init 29 = .ok (.aload_n 0, 1) := by decide +kernel
theorem dX8_init_30 : decode cX8_init 30 = .ok (.sipush 342, 3) := by decide +kernel
theorem dX8_init_33 : decode cX8_init 33 = .ok (.newarray .int, 2) := by decide +kernel
theorem dX8_init_35 : decode cX8_init 35 = .ok (.putfield 20, 3) := by decide +kernel
theorem dX8_init_38 : decode cX8_init 38 = .ok (.aload_n 0, 1) := by decide +kernel
theorem dX8_init_39 : decode cX8_init 39 = .ok (.sipush 342, 3) := by decide +kernel
theorem dX8_init_42 : decode cX8_init 42 = .ok (.newarray .int, 2) := by decide +kernel
theorem dX8_init_44 : decode cX8_init 44 = .ok (.putfield 23, 3) := by decide +kernel
theorem dX8_init_47 : decode cX8_init 47 = .ok (.aload_n 0, 1) := by decide +kernel
theorem dX8_init_48 : decode cX8_init 48 = .ok (.bipush 17, 2) := by decide +kernel
theorem dX8_init_50 : decode cX8_init 50 = .ok (.newarray .int, 2) := by decide +kernel
theorem dX8_init_52 : decode cX8_init 52 = .ok (.putfield 26, 3) := by decide +kernel
theorem dX8_init_55 : decode cX8_init 55 = .ok (.aload_n 0, 1) := by decide +kernel
theorem dX8_init_56 : decode cX8_init 56 = .ok (.bipush 24, 2) := by decide +kernel
theorem dX8_init_58 : decode cX8_init 58 = .ok (.newarray .int, 2) := by decide +kernel
theorem dX8_init_60 : decode cX8_init 60 = .ok (.putfield 29, 3) := by decide +kernel
theorem dX8_init_63 : decode cX8_init 63 = .ok (.aload_n 0, 1) := by decide +kernel
theorem dX8_init_64 : decode cX8_init 64 = .ok (.bipush 24, 2) := by decide +kernel
theorem dX8_init_66 : decode cX8_init 66 = .ok (.newarray .int, 2) := by decide +kernel
theorem dX8_init_68 : decode cX8_init 68 = .ok (.putfield 32, 3) := by decide +kernel
theorem dX8_init_71 : decode cX8_init 71 = .ok (.aload_n 0, 1) := by decide +kernel
theorem dX8_init_72 : decode cX8_init 72 = .ok (.bipush 24, 2) := by decide +kernel
theorem dX8_init_74 : decode cX8_init 74 = .ok (.newarray .int, 2) := by decide +kernel
theorem dX8_init_76 : decode cX8_init 76 = .ok (.putfield 35, 3) := by decide +kernel
theorem dX8_init_79 : decode cX8_init 79 = .ok (.aload_n 0, 1) := by decide +kernel
theorem dX8_init_80 : decode cX8_init 80 = .ok (.bipush 24, 2) := by decide +kernel
theorem dX8_init_82 : decode cX8_init 82 = .ok (.newarray .int, 2) := by decide +kernel
theorem dX8_init_84 : decode cX8_init 84 = .ok (.putfield 38, 3) := by decide +kernel
theorem dX8_init_87 : decode cX8_init 87 = .ok (.aload_n 0, 1) := by decide +kernel
theorem dX8_init_88 : decode cX8_init 88 = .ok (.bipush 64, 2) := by decide +kernel
theorem dX8_init_90 : decode cX8_init 90 = .ok (.newarray .int, 2) := by decide +kernel
theorem dX8_init_92 : decode cX8_init 92 = .ok (.putfield 41, 3) := by decide +kernel
theorem dX8_init_95 : decode cX8_init 95 = .ok (.aload_n 0, 1) := by decide +kernel
theorem dX8_init_96 : decode cX8_init 96 = .ok (.bipush 21, 2) := by decide +kernel
theorem dX8_init_98 : decode cX8_init 98 = .ok (.newarray .int, 2) := by decide +kernel
theorem dX8_init_100 : decode cX8_init 100 = .ok (.putfield 44, 3) := by decide +kernel
theorem dX8_init_103 : decode cX8_init 103 = .ok (.aload_n 0, 1) := by decide +kernel
theorem dX8_init_104 : decode cX8_init 104 = .ok (.sipush 512, 3) := by decide +kernel
theorem dX8_init_107 : decode cX8_init 107 = .ok (.newarray .boolean, 2) := by decide +kernel
theorem dX8_init_109 : decode cX8_init 109 = .ok (.putfield 47, 3) := by decide +kernel
theorem dX8_init_112 : decode cX8_init 112 = .ok (.aload_n 0, 1) := by decide +kernel
theorem dX8_init_113 : decode cX8_init 113 = .ok (.sipush 512, 3) := by decide +kernel
theorem dX8_init_116 : decode cX8_init 116 = .ok (.newarray .int, 2) := by decide +kernel
theorem dX8_init_118 : decode cX8_init 118 = .ok (.putfield 50, 3) := by decide +kernel
theorem dX8_init_121 : decode cX8_init 121 = .ok (.aload_n 0, 1) := by decide +kernel
theorem dX8_init_122 : decode cX8_init 122 = .ok (.sipush 512, 3) := by decide +kernel
theorem dX8_init_125 : decode cX8_init 125 = .ok (.newarray .int, 2) := by decide +kernel
theorem dX8_init_127 : decode cX8_init 127 = .ok (.putfield 53, 3) := by decide +kernel
theorem dX8_init_130 : decode cX8_init 130 = .ok (.aload_n 0, 1) := by decide +kernel
theorem dX8_init_131 : decode cX8_init 131 = .ok (.sipush 512, 3) := by decide +kernel
theorem dX8_init_134 : decode cX8_init 134 = .ok (.newarray .int, 2) := by decide +kernel
theorem dX8_init_136 : decode cX8_init 136 = .ok (.putfield 56, 3) := by decide +kernel
theorem dX8_init_139 : decode cX8_init 139 = .ok (.aload_n 0, 1) := by decide +kernel
theorem dX8_init_140 : decode cX8_init 140 = .ok (.sipush 512, 3) := by decide +kernel
theorem dX8_init_143 : decode cX8_init 143 = .ok (.newarray .int, 2) := by decide +kernel
theorem dX8_init_145 : decode cX8_init 145 = .ok (.putfield 59, 3) := by decide +kernel
theorem dX8_init_148 : decode cX8_init 148 = .ok (.iconst 0, 1) := by decide +kernel
theorem dX8_init_149 : decode cX8_init 149 = .ok (.istore_n 1, 1) := by decide +kernel
theorem dX8_init_150 : decode cX8_init 150 = .ok (.iload_n 1, 1) := by decide +kernel
theorem dX8_init_151 : decode cX8_init 151 = .ok (.bipush 21, 2) := by decide +kernel
theorem dX8_init_153 : decode cX8_init 153 = .ok (.if_icmp .ge 22, 3) := by decide +kernel
theorem dX8_init_156 : decode cX8_init 156 = .ok (.aload_n 0, 1) := by decide +kernel
theorem dX8_init_157 : decode cX8_init 157 = .ok (.getfield 20, 3) := by decide +kernel
theorem dX8_init_160 : decode cX8_init 160 = .ok (.sipush 173, 3) := by decide +kernel
theorem dX8_init_163 : decode cX8_init 163 = .ok (.iload_n 1, 1) := by decide +kernel
theorem dX8_init_164 : decode cX8_init 164 = .ok (.iadd, 1) := by decide +kernel
theorem dX8_init_165 : decode cX8_init 165 = .ok (.sipush 255, 3) := by decide +kernel
theorem dX8_init_168 : decode cX8_init 168 = .ok (.iastore, 1) := by decide +kernel
theorem dX8_init_169 : decode cX8_init 169 = .ok (.iinc 1 1, 3) := by decide +kernel
theorem dX8_init_172 : decode cX8_init 172 = .ok (.goto (-22), 3) := by decide +kernel
theorem dX8_init_175 : decode cX8_init 175 = .ok (.aload_n 0, 1) := by decide +kernel
theorem dX8_init_176 : decode cX8_init 176 = .ok (.getfield 16, 3) := by decide +kernel
theorem dX8_init_179 : decode cX8_init 179 = .ok (.bipush 20, 2) := by decide +kernel
theorem dX8_init_181 : decode cX8_init 181 = .ok (.iconst 1, 1) := by decide +kernel
theorem dX8_init_182 : decode cX8_init 182 = .ok (.bastore, 1) := by decide +kernel
theorem dX8_init_183 : decode cX8_init 183 = .ok (.aload_n 0, 1) := by decide +kernel
theorem dX8_init_184 : decode cX8_init 184 = .ok (.invokevirtual 62, 3) := by decide +kernel
theorem dX8_init_187 : decode cX8_init 187 = .ok (.return_, 1) := by decide +kernel
theorem dX8_thrown_0 : decode cX8_thrown 0 = .ok (.aload_n 0, 1) := by decide +kernel
theorem dX8_thrown_1 : decode cX8_thrown 1 = .ok (.getfield 65, 3) := by decide +kernel
theorem dX8_thrown_4 : decode cX8_thrown 4 = .ok (.ireturn, 1) := by decide +kernel
theorem dX8_within_0 : decode cX8_within 0 = .ok (.iload_n 0, 1) := by decide +kernel
theorem dX8_within_1 : decode cX8_within 1 = .ok (.iload_n 1, 1) := by decide +kernel
theorem dX8_within_2 : decode cX8_within 2 = .ok (.if_icmp .lt 12, 3) := by decide +kernel
theorem dX8_within_5 : decode cX8_within 5 = .ok (.iload_n 0, 1) := by decide +kernel
theorem dX8_within_6 : decode cX8_within 6 = .ok (.iload_n 2, 1) := by decide +kernel
theorem dX8_within_7 : decode cX8_within 7 = .ok (.if_icmp .gt 7, 3) := by decide +kernel
theorem dX8_within_10 : decode cX8_within 10 = .ok (.iconst 1, 1) := by decide +kernel
theorem dX8_within_11 : decode cX8_within 11 = .ok (.goto 4, 3) := by decide +kernel
theorem dX8_within_14 : decode cX8_within 14 = .ok (.iconst 0, 1) := by decide +kernel
theorem dX8_within_15 : decode cX8_within 15 = .ok (.ireturn, 1) := by decide +kernel
theorem dX8_mod_0 : decode cX8_mod 0 = .ok (.iload_n 0, 1) := by decide +kernel
theorem dX8_mod_1 : decode cX8_mod 1 = .ok (.iload_n 1, 1) := by decide +kernel
theorem dX8_mod_2 : decode cX8_mod 2 = .ok (.irem, 1) := by decide +kernel
theorem dX8_mod_3 : decode cX8_mod 3 = .ok (.iload_n 1, 1) := by decide +kernel
theorem dX8_mod_4 : decode cX8_mod 4 = .ok (.iadd, 1) := by decide +kernel
theorem dX8_mod_5 : decode cX8_mod 5 = .ok (.iload_n 1, 1) := by decide +kernel
theorem dX8_mod_6 : decode cX8_mod 6 = .ok (.irem, 1) := by decide +kernel
theorem dX8_mod_7 : decode cX8_mod 7 = .ok (.ireturn, 1) := by decide +kernel
theorem dX8_fresh_0 : decode cX8_fresh 0 = .ok (.aload_n 0, 1) := by decide +kernel
theorem dX8_fresh_1 : decode cX8_fresh 1 = .ok (.getfield 20, 3) := by decide +kernel
theorem dX8_fresh_4 : decode cX8_fresh 4 = .ok (.bipush 26, 2) := by decide +kernel
theorem dX8_fresh_6 : decode cX8_fresh 6 = .ok (.iaload, 1) := by decide +kernel
theorem dX8_fresh_7 : decode cX8_fresh 7 = .ok (.istore_n 1, 1) := by decide +kernel
theorem dX8_fresh_8 : decode cX8_fresh 8 = .ok (.iconst 0, 1) := by decide +kernel
theorem dX8_fresh_9 : decode cX8_fresh 9 = .ok (.istore_n 2, 1) := by decide +kernel
theorem dX8_fresh_10 : decode cX8_fresh 10 = .ok (.iload_n 2, 1) := by decide +kernel
theorem dX8_fresh_11 : decode cX8_fresh 11 = .ok (.sipush 342, 3) := by decide +kernel
theorem dX8_fresh_14 : decode cX8_fresh 14 = .ok (.if_icmp .ge 30, 3) := by decide +kernel
theorem dX8_fresh_17 : decode cX8_fresh 17 = .ok (.iload_n 2, 1) := by decide +kernel
theorem dX8_fresh_18 : decode cX8_fresh 18 = .ok (.sipush 173, 3) := by decide +kernel
theorem dX8_fresh_21 : decode cX8_fresh 21 = .ok (.if_icmp .lt 10, 3) := by decide +kernel
theorem dX8_fresh_24 : decode cX8_fresh 24 = .ok (.iload_n 2, 1) := by decide +kernel
theorem dX8_fresh_25 : decode cX8_fresh 25 = .ok (.sipush 194, 3) := by decide +kernel
theorem dX8_fresh_28 : decode cX8_fresh 28 = .ok (.if_icmp .lt 10, 3) := by decide +kernel
theorem dX8_fresh_31 : decode cX8_fresh 31 = .ok (.aload_n 0, 1) := by decide +kernel
theorem dX8_fresh_32 : decode cX8_fresh 32 = .ok (.getfield 20, 3) := by decide +kernel
theorem dX8_fresh_35 : decode cX8_fresh 35 = .ok (.iload_n 2, 1) := by decide +kernel
theorem dX8_fresh_36 : decode cX8_fresh 36 = .ok (.iconst 0, 1) := by decide +kernel
theorem dX8_fresh_37 : decode cX8_fresh 37 = .ok (.iastore, 1) := by decide +kernel
theorem dX8_fresh_38 : decode cX8_fresh 38 = .ok (.iinc 2 1, 3) := by decide +kernel
theorem dX8_fresh_41 : decode cX8_fresh 41 = .ok (.goto (-31), 3) := by decide +kernel
theorem dX8_fresh_44 : decode cX8_fresh 44 = .ok (.iconst 0, 1) := by decide +kernel
theorem dX8_fresh_45 : decode cX8_fresh 45 = .ok (.istore_n 2, 1) := by decide +kernel
theorem dX8_fresh_46 : decode cX8_fresh 46 = .ok (.iload_n 2, 1) := by decide +kernel
theorem dX8_fresh_47 : decode cX8_fresh 47 = .ok (.bipush 21, 2) := by decide +kernel
theorem dX8_fresh_49 : decode cX8_fresh 49 = .ok (.if_icmp .ge 27, 3) := by decide +kernel
theorem dX8_fresh_52 : decode cX8_fresh 52 = .ok (.aload_n 0, 1) := by decide +kernel
theorem dX8_fresh_53 : decode cX8_fresh 53 = .ok (.getfield 20, 3) := by decide +kernel
theorem dX8_fresh_56 : decode cX8_fresh 56 = .ok (.sipush 194, 3) := by decide +kernel
theorem dX8_fresh_59 : decode cX8_fresh 59 = .ok (.iload_n 2, 1) := by decide +kernel
theorem dX8_fresh_60 : decode cX8_fresh 60 = .ok (.iadd, 1) := by decide +kernel
theorem dX8_fresh_61 : decode cX8_fresh 61 = .ok (.iconst (-1), 1) := by decide +kernel
theorem dX8_fresh_62 : decode cX8_fresh 62 = .ok (.iastore, 1) := by decide +kernel
theorem dX8_fresh_63 : decode cX8_fresh 63 = .ok (.aload_n 0, 1) := by decide +kernel
theorem dX8_fresh_64 : decode cX8_fresh 64 = .ok (.getfield 44, 3) := by decide +kernel
theorem dX8_fresh_67 : decode cX8_fresh 67 = .ok (.iload_n 2, 1) := by decide +kernel
theorem dX8_fresh_68 : decode cX8_fresh 68 = .ok (.iconst (-1), 1) := by decide +kernel
theorem dX8_fresh_69 : decode cX8_fresh 69 = .ok (.iastore, 1) := by decide +kernel
theorem dX8_fresh_70 : decode cX8_fresh 70 = .ok (.iinc 2 1, 3) := by decide +kernel
theorem dX8_fresh_73 : decode cX8_fresh 73 = .ok (.goto (-27), 3) := by decide +kernel
theorem dX8_fresh_76 : decode cX8_fresh 76 = .ok (.iconst 0, 1) := by decide +kernel
theorem dX8_fresh_77 : decode cX8_fresh 77 = .ok (.istore_n 2, 1) := by decide +kernel
theorem dX8_fresh_78 : decode cX8_fresh 78 = .ok (.iload_n 2, 1) := by decide +kernel
theorem dX8_fresh_79 : decode cX8_fresh 79 = .ok (.bipush 17, 2) := by decide +kernel
theorem dX8_fresh_81 : decode cX8_fresh 81 = .ok (.if_icmp .ge 16, 3) := by decide +kernel
theorem dX8_fresh_84 : decode cX8_fresh 84 = .ok (.aload_n 0, 1) := by decide +kernel
theorem dX8_fresh_85 : decode cX8_fresh 85 = .ok (.getfield 26, 3) := by decide +kernel
theorem dX8_fresh_88 : decode cX8_fresh 88 = .ok (.iload_n 2, 1) := by decide +kernel
theorem dX8_fresh_89 : decode cX8_fresh 89 = .ok (.iconst 0, 1) := by decide +kernel
theorem dX8_fresh_90 : decode cX8_fresh 90 = .ok (.iastore, 1) := by decide +kernel
theorem dX8_fresh_91 : decode cX8_fresh 91 = .ok (.iinc 2 1, 3) := by decide +kernel
theorem dX8_fresh_94 : decode cX8_fresh 94 = .ok (.goto (-16), 3) := by decide +kernel
theorem dX8_fresh_97 : decode cX8_fresh 97 = .ok (.aload_n 0, 1) := by decide +kernel
theorem dX8_fresh_98 : decode cX8_fresh 98 = .ok (.getfield 20, 3) := by decide +kernel
theorem dX8_fresh_101 : decode cX8_fresh 101 = .ok (.bipush 19, 2) := by decide +kernel
theorem dX8_fresh_103 : decode cX8_fresh 103 = .ok (.iconst (-1), 1) := by decide +kernel
theorem dX8_fresh_104 : decode cX8_fresh 104 = .ok (.iastore, 1) := by decide +kernel
theorem dX8_fresh_105 : decode cX8_fresh 105 = .ok (.aload_n 0, 1) := by decide +kernel
theorem dX8_fresh_106 : decode cX8_fresh 106 = .ok (.getfield 20, 3) := by decide +kernel
theorem dX8_fresh_109 : decode cX8_fresh 109 = .ok (.bipush 26, 2) := by decide +kernel
theorem dX8_fresh_111 : decode cX8_fresh 111 = .ok (.iload_n 1, 1) := by decide +kernel
theorem dX8_fresh_112 : decode cX8_fresh 112 = .ok (.iastore, 1) := by decide +kernel
theorem dX8_fresh_113 : decode cX8_fresh 113 = .ok (.aload_n 0, 1) := by decide +kernel
theorem dX8_fresh_114 : decode cX8_fresh 114 = .ok (.getfield 20, 3) := by decide +kernel
theorem dX8_fresh_117 : decode cX8_fresh 117 = .ok (.bipush 27, 2) := by decide +kernel
theorem dX8_fresh_119 : decode cX8_fresh 119 = .ok (.iload_n 1, 1) := by decide +kernel
theorem dX8_fresh_120 : decode cX8_fresh 120 = .ok (.iastore, 1) := by decide +kernel
theorem dX8_fresh_121 : decode cX8_fresh 121 = .ok (.aload_n 0, 1) := by decide +kernel
theorem dX8_fresh_122 : decode cX8_fresh 122 = .ok (.iconst 0, 1) := by decide +kernel
theorem dX8_fresh_123 : decode cX8_fresh 123 = .ok (.putfield 69, 3) := by decide +kernel
theorem dX8_fresh_126 : decode cX8_fresh 126 = .ok (.return_, 1) := by decide +kernel
theorem dX8_notes_0 : decode cX8_notes 0 = .ok (.aload_n 0, 1) := by decide +kernel
theorem dX8_notes_1 : decode cX8_notes 1 = .ok (.getfield 72, 3) := by decide +kernel
theorem dX8_notes_4 : decode cX8_notes 4 = .ok (.ifCond .ne 4, 3) := by decide +kernel
theorem dX8_notes_7 : decode cX8_notes 7 = .ok (.return_, 1) := by decide +kernel
theorem dX8_notes_8 : decode cX8_notes 8 = .ok (.aload_n 0, 1) := by decide +kernel
theorem dX8_notes_9 : decode cX8_notes 9 = .ok (.getfield 69, 3) := by decide +kernel
theorem dX8_notes_12 : decode cX8_notes 12 = .ok (.bipush 24, 2) := by decide +kernel
theorem dX8_notes_14 : decode cX8_notes 14 = .ok (.irem, 1) := by decide +kernel
theorem dX8_notes_15 : decode cX8_notes 15 = .ok (.istore 4, 2) := by decide +kernel
theorem dX8_notes_17 : decode cX8_notes 17 = .ok (.aload_n 0, 1) := by decide +kernel
theorem dX8_notes_18 : decode cX8_notes 18 = .ok (.getfield 29, 3) := by decide +kernel
theorem dX8_notes_21 : decode cX8_notes 21 = .ok (.iload 4, 2) := by decide +kernel
theorem dX8_notes_23 : decode cX8_notes 23 = .ok (.iload_n 1, 1) := by decide +kernel
theorem dX8_notes_24 : decode cX8_notes 24 = .ok (.iastore, 1) := by decide +kernel
theorem dX8_notes_25 : decode cX8_notes 25 = .ok (.aload_n 0, 1) := by decide +kernel
theorem dX8_notes_26 : decode cX8_notes 26 = .ok (.getfield 32, 3) := by decide +kernel
theorem dX8_notes_29 : decode cX8_notes 29 = .ok (.iload 4, 2) := by decide +kernel
theorem dX8_notes_31 : decode cX8_notes 31 = .ok (.iload_n 2, 1) := by decide +kernel
theorem dX8_notes_32 : decode cX8_notes 32 = .ok (.iastore, 1) := by decide +kernel
theorem dX8_notes_33 : decode cX8_notes 33 = .ok (.aload_n 0, 1) := by decide +kernel
theorem dX8_notes_34 : decode cX8_notes 34 = .ok (.getfield 35, 3) := by decide +kernel
theorem dX8_notes_37 : decode cX8_notes 37 = .ok (.iload 4, 2) := by decide +kernel
theorem dX8_notes_39 : decode cX8_notes 39 = .ok (.aload_n 0, 1) := by decide +kernel
theorem dX8_notes_40 : decode cX8_notes 40 = .ok (.getfield 20, 3) := by decide +kernel
theorem dX8_notes_43 : decode cX8_notes 43 = .ok (.bipush 25, 2) := by decide +kernel
theorem dX8_notes_45 : decode cX8_notes 45 = .ok (.iaload, 1) := by decide +kernel
theorem dX8_notes_46 : decode cX8_notes 46 = .ok (.iastore, 1) := by decide +kernel
theorem dX8_notes_47 : decode cX8_notes 47 = .ok (.aload_n 0, 1) := by decide +kernel
theorem dX8_notes_48 : decode cX8_notes 48 = .ok (.getfield 38, 3) := by decide +kernel
theorem dX8_notes_51 : decode cX8_notes 51 = .ok (.iload 4, 2) := by decide +kernel
theorem dX8_notes_53 : decode cX8_notes 53 = .ok (.iload_n 3, 1) := by decide +kernel
theorem dX8_notes_54 : decode cX8_notes 54 = .ok (.iastore, 1) := by decide +kernel
theorem dX8_notes_55 : decode cX8_notes 55 = .ok (.aload_n 0, 1) := by decide +kernel
theorem dX8_notes_56 : decode cX8_notes 56 = .ok (.dup, 1) := by decide +kernel
theorem dX8_notes_57 : decode cX8_notes 57 = .ok (.getfield 69, 3) := by decide +kernel
theorem dX8_notes_60 : decode cX8_notes 60 = .ok (.iconst 1, 1) := by decide +kernel
theorem dX8_notes_61 : decode cX8_notes 61 = .ok (.iadd, 1) := by decide +kernel
theorem dX8_notes_62 : decode cX8_notes 62 = .ok (.putfield 69, 3) := by decide +kernel
theorem dX8_notes_65 : decode cX8_notes 65 = .ok (.return_, 1) := by decide +kernel
theorem dX8_counts_0 : decode cX8_counts 0 = .ok (.aload_n 0, 1) := by decide +kernel
theorem dX8_counts_1 : decode cX8_counts 1 = .ok (.getfield 72, 3) := by decide +kernel
theorem dX8_counts_4 : decode cX8_counts 4 = .ok (.ifCond .eq 13, 3) := by decide +kernel
theorem dX8_counts_7 : decode cX8_counts 7 = .ok (.aload_n 0, 1) := by decide +kernel
theorem dX8_counts_8 : decode cX8_counts 8 = .ok (.getfield 26, 3) := by decide +kernel
theorem dX8_counts_11 : decode cX8_counts 11 = .ok (.iload_n 1, 1) := by decide +kernel
theorem dX8_counts_12 : decode cX8_counts 12 = .ok (.dup2, 1) := by decide +kernel
theorem dX8_counts_13 : decode cX8_counts 13 = .ok (.iaload, 1) := by decide +kernel
theorem dX8_counts_14 : decode cX8_counts 14 = .ok (.iconst 1, 1) := by decide +kernel
theorem dX8_counts_15 : decode cX8_counts 15 = .ok (.iadd, 1) := by decide +kernel
theorem dX8_counts_16 : decode cX8_counts 16 = .ok (.iastore, 1) := by decide +kernel
theorem dX8_counts_17 : decode cX8_counts 17 = .ok (.return_, 1) := by decide +kernel
theorem dX8_lengthOf_0 : decode cX8_lengthOf 0 = .ok (.iconst 0, 1) := by decide +kernel
theorem dX8_lengthOf_1 : decode cX8_lengthOf 1 = .ok (.istore_n 2, 1) := by decide +kernel
theorem dX8_lengthOf_2 : decode cX8_lengthOf 2 = .ok (.lload_n 0, 1) := by decide +kernel
theorem dX8_lengthOf_3 : decode cX8_lengthOf 3 = .ok (.lstore_n 3, 1) := by decide +kernel
theorem dX8_lengthOf_4 : decode cX8_lengthOf 4 = .ok (.lload_n 3, 1) := by decide +kernel
theorem dX8_lengthOf_5 : decode cX8_lengthOf 5 = .ok (.lconst 0, 1) := by decide +kernel
theorem dX8_lengthOf_6 : decode cX8_lengthOf 6 = .ok (.lcmp, 1) := by decide +kernel
theorem dX8_lengthOf_7 : decode cX8_lengthOf 7 = .ok (.ifCond .le 13, 3) := by decide +kernel
theorem dX8_lengthOf_10 : decode cX8_lengthOf 10 = .ok (.iinc 2 1, 3) := by decide +kernel
theorem dX8_lengthOf_13 : decode cX8_lengthOf 13 = .ok (.lload_n 3, 1) := by decide +kernel
theorem dX8_lengthOf_14 : decode cX8_lengthOf 14 = .ok (.iconst 1, 1) := by decide +kernel
theorem dX8_lengthOf_15 : decode cX8_lengthOf 15 = .ok (.lshr, 1) := by decide +kernel
theorem dX8_lengthOf_16 : decode cX8_lengthOf 16 = .ok (.lstore_n 3, 1) := by decide +kernel
theorem dX8_lengthOf_17 : decode cX8_lengthOf 17 = .ok (.goto (-13), 3) := by decide +kernel
theorem dX8_lengthOf_20 : decode cX8_lengthOf 20 = .ok (.iload_n 2, 1) := by decide +kernel
theorem dX8_lengthOf_21 : decode cX8_lengthOf 21 = .ok (.ireturn, 1) := by decide +kernel
theorem dX8_isFinite_0 : decode cX8_isFinite 0 = .ok (.iload_n 0, 1) := by decide +kernel
theorem dX8_isFinite_1 : decode cX8_isFinite 1 = .ok (.bipush 23, 2) := by decide +kernel
theorem dX8_isFinite_3 : decode cX8_isFinite 3 = .ok (.ishr, 1) := by decide +kernel
theorem dX8_isFinite_4 : decode cX8_isFinite 4 = .ok (.sipush 255, 3) := by decide +kernel
theorem dX8_isFinite_7 : decode cX8_isFinite 7 = .ok (.iand, 1) := by decide +kernel
theorem dX8_isFinite_8 : decode cX8_isFinite 8 = .ok (.sipush 255, 3) := by decide +kernel
theorem dX8_isFinite_11 : decode cX8_isFinite 11 = .ok (.if_icmp .eq 7, 3) := by decide +kernel
theorem dX8_isFinite_14 : decode cX8_isFinite 14 = .ok (.iconst 1, 1) := by decide +kernel
theorem dX8_isFinite_15 : decode cX8_isFinite 15 = .ok (.goto 4, 3) := by decide +kernel
theorem dX8_isFinite_18 : decode cX8_isFinite 18 = .ok (.iconst 0, 1) := by decide +kernel
theorem dX8_isFinite_19 : decode cX8_isFinite 19 = .ok (.ireturn, 1) := by decide +kernel
theorem dX8_fraction_0 : decode cX8_fraction 0 = .ok (.iload_n 0, 1) := by decide +kernel
theorem dX8_fraction_1 : decode cX8_fraction 1 = .ok (.bipush 23, 2) := by decide +kernel
theorem dX8_fraction_3 : decode cX8_fraction 3 = .ok (.ishr, 1) := by decide +kernel
theorem dX8_fraction_4 : decode cX8_fraction 4 = .ok (.sipush 255, 3) := by decide +kernel
theorem dX8_fraction_7 : decode cX8_fraction 7 = .ok (.iand, 1) := by decide +kernel
theorem dX8_fraction_8 : decode cX8_fraction 8 = .ok (.ifCond .ne 11, 3) := by decide +kernel
theorem dX8_fraction_11 : decode cX8_fraction 11 = .ok (.iload_n 0, 1) := by decide +kernel
theorem dX8_fraction_12 : decode cX8_fraction 12 = .ok (.ldc 76, 2) := by decide +kernel
theorem dX8_fraction_14 : decode cX8_fraction 14 = .ok (.iand, 1) := by decide +kernel
theorem dX8_fraction_15 : decode cX8_fraction 15 = .ok (.i2l, 1) := by decide +kernel
theorem dX8_fraction_16 : decode cX8_fraction 16 = .ok (.goto 11, 3) := by decide +kernel
theorem dX8_fraction_19 : decode cX8_fraction 19 = .ok (.iload_n 0, 1) := by decide +kernel
theorem dX8_fraction_20 : decode cX8_fraction 20 = .ok (.ldc 76, 2) := by decide +kernel
theorem dX8_fraction_22 : decode cX8_fraction 22 = .ok (.iand, 1) := by decide +kernel
theorem dX8_fraction_23 : decode cX8_fraction 23 = .ok (.ldc 77, 2) := by decide +kernel
theorem dX8_fraction_25 : decode cX8_fraction 25 = .ok (.ior, 1) := by decide +kernel
theorem dX8_fraction_26 : decode cX8_fraction 26 = .ok (.i2l, 1) := by decide +kernel
theorem dX8_fraction_27 : decode cX8_fraction 27 = .ok (.lreturn, 1) := by decide +kernel
theorem dX8_place_0 : decode cX8_place 0 = .ok (.iload_n 0, 1) := by decide +kernel
theorem dX8_place_1 : decode cX8_place 1 = .ok (.bipush 23, 2) := by decide +kernel
theorem dX8_place_3 : decode cX8_place 3 = .ok (.ishr, 1) := by decide +kernel
theorem dX8_place_4 : decode cX8_place 4 = .ok (.sipush 255, 3) := by decide +kernel
theorem dX8_place_7 : decode cX8_place 7 = .ok (.iand, 1) := by decide +kernel
theorem dX8_place_8 : decode cX8_place 8 = .ok (.istore_n 1, 1) := by decide +kernel
theorem dX8_place_9 : decode cX8_place 9 = .ok (.iload_n 1, 1) := by decide +kernel
theorem dX8_place_10 : decode cX8_place 10 = .ok (.ifCond .ne 9, 3) := by decide +kernel
theorem dX8_place_13 : decode cX8_place 13 = .ok (.sipush (-149), 3) := by decide +kernel
theorem dX8_place_16 : decode cX8_place 16 = .ok (.goto 8, 3) := by decide +kernel
theorem dX8_place_19 : decode cX8_place 19 = .ok (.iload_n 1, 1) := by decide +kernel
theorem dX8_place_20 : decode cX8_place 20 = .ok (.sipush 150, 3) := by decide +kernel
theorem dX8_place_23 : decode cX8_place 23 = .ok (.isub, 1) := by decide +kernel
theorem dX8_place_24 : decode cX8_place 24 = .ok (.ireturn, 1) := by decide +kernel
theorem dX8_rounded_0 : decode cX8_rounded 0 = .ok (.iload_n 0, 1) := by decide +kernel
theorem dX8_rounded_1 : decode cX8_rounded 1 = .ok (.ifCond .eq 8, 3) := by decide +kernel
theorem dX8_rounded_4 : decode cX8_rounded 4 = .ok (.ldc 78, 2) := by decide +kernel
theorem dX8_rounded_6 : decode cX8_rounded 6 = .ok (.goto 4, 3) := by decide +kernel
theorem dX8_rounded_9 : decode cX8_rounded 9 = .ok (.iconst 0, 1) := by decide +kernel
theorem dX8_rounded_10 : decode cX8_rounded 10 = .ok (.istore 5, 2) := by decide +kernel
theorem dX8_rounded_12 : decode cX8_rounded 12 = .ok (.lload_n 1, 1) := by decide +kernel
theorem dX8_rounded_13 : decode cX8_rounded 13 = .ok (.invokestatic 79, 3) := by decide +kernel
theorem dX8_rounded_16 : decode cX8_rounded 16 = .ok (.iload_n 3, 1) := by decide +kernel
theorem dX8_rounded_17 : decode cX8_rounded 17 = .ok (.iadd, 1) := by decide +kernel
theorem dX8_rounded_18 : decode cX8_rounded 18 = .ok (.bipush 24, 2) := by decide +kernel
theorem dX8_rounded_20 : decode cX8_rounded 20 = .ok (.isub, 1) := by decide +kernel
theorem dX8_rounded_21 : decode cX8_rounded 21 = .ok (.istore 6, 2) := by decide +kernel
theorem dX8_rounded_23 : decode cX8_rounded 23 = .ok (.iload 6, 2) := by decide +kernel
theorem dX8_rounded_25 : decode cX8_rounded 25 = .ok (.sipush (-149), 3) := by decide +kernel
theorem dX8_rounded_28 : decode cX8_rounded 28 = .ok (.if_icmp .ge 8, 3) := by decide +kernel
theorem dX8_rounded_31 : decode cX8_rounded 31 = .ok (.sipush (-149), 3) := by decide +kernel
theorem dX8_rounded_34 : decode cX8_rounded 34 = .ok (.istore 6, 2) := by decide +kernel
theorem dX8_rounded_36 : decode cX8_rounded 36 = .ok (.iload 6, 2) := by decide +kernel
theorem dX8_rounded_38 : decode cX8_rounded 38 = .ok (.iload_n 3, 1) := by decide +kernel
theorem dX8_rounded_39 : decode cX8_rounded 39 = .ok (.isub, 1) := by decide +kernel
theorem dX8_rounded_40 : decode cX8_rounded 40 = .ok (.istore 7, 2) := by decide +kernel
theorem dX8_rounded_42 : decode cX8_rounded 42 = .ok (.iload 7, 2) := by decide +kernel
theorem dX8_rounded_44 : decode cX8_rounded 44 = .ok (.ifCond .gt 13, 3) := by decide +kernel
theorem dX8_rounded_47 : decode cX8_rounded 47 = .ok (.lload_n 1, 1) := by decide +kernel
theorem dX8_rounded_48 : decode cX8_rounded 48 = .ok (.iload 7, 2) := by decide +kernel
theorem dX8_rounded_50 : decode cX8_rounded 50 = .ok (.ineg, 1) := by decide +kernel
theorem dX8_rounded_51 : decode cX8_rounded 51 = .ok (.lshl, 1) := by decide +kernel
theorem dX8_rounded_52 : decode cX8_rounded 52 = .ok (.lstore 8, 2) := by decide +kernel
theorem dX8_rounded_54 : decode cX8_rounded 54 = .ok (.goto 78, 3) := by decide +kernel
theorem dX8_rounded_57 : decode cX8_rounded 57 = .ok (.iload 7, 2) := by decide +kernel
theorem dX8_rounded_59 : decode cX8_rounded 59 = .ok (.bipush 60, 2) := by decide +kernel
theorem dX8_rounded_61 : decode cX8_rounded 61 = .ok (.if_icmp .le 9, 3) := by decide +kernel
theorem dX8_rounded_64 : decode cX8_rounded 64 = .ok (.lconst 0, 1) := by decide +kernel
theorem dX8_rounded_65 : decode cX8_rounded 65 = .ok (.lstore 8, 2) := by decide +kernel
theorem dX8_rounded_67 : decode cX8_rounded 67 = .ok (.goto 65, 3) := by decide +kernel
theorem dX8_rounded_70 : decode cX8_rounded 70 = .ok (.lconst 1, 1) := by decide +kernel
theorem dX8_rounded_71 : decode cX8_rounded 71 = .ok (.iload 7, 2) := by decide +kernel
theorem dX8_rounded_73 : decode cX8_rounded 73 = .ok (.iconst 1, 1) := by decide +kernel
theorem dX8_rounded_74 : decode cX8_rounded 74 = .ok (.isub, 1) := by decide +kernel
theorem dX8_rounded_75 : decode cX8_rounded 75 = .ok (.lshl, 1) := by decide +kernel
theorem dX8_rounded_76 : decode cX8_rounded 76 = .ok (.lstore 10, 2) := by decide +kernel
theorem dX8_rounded_78 : decode cX8_rounded 78 = .ok (.lload_n 1, 1) := by decide +kernel
theorem dX8_rounded_79 : decode cX8_rounded 79 = .ok (.ldc2_w 83, 3) := by decide +kernel
theorem dX8_rounded_82 : decode cX8_rounded 82 = .ok (.lload 10, 2) := by decide +kernel
theorem dX8_rounded_84 : decode cX8_rounded 84 = .ok (.lmul, 1) := by decide +kernel
theorem dX8_rounded_85 : decode cX8_rounded 85 = .ok (.lconst 1, 1) := by decide +kernel
theorem dX8_rounded_86 : decode cX8_rounded 86 = .ok (.lsub, 1) := by decide +kernel
theorem dX8_rounded_87 : decode cX8_rounded 87 = .ok (.land, 1) := by decide +kernel
theorem dX8_rounded_88 : decode cX8_rounded 88 = .ok (.lstore 12, 2) := by decide +kernel
theorem dX8_rounded_90 : decode cX8_rounded 90 = .ok (.lload_n 1, 1) := by decide +kernel
theorem dX8_rounded_91 : decode cX8_rounded 91 = .ok (.iload 7, 2) := by decide +kernel
theorem dX8_rounded_93 : decode cX8_rounded 93 = .ok (.lshr, 1) := by decide +kernel
theorem dX8_rounded_94 : decode cX8_rounded 94 = .ok (.lstore 8, 2) := by decide +kernel
theorem dX8_rounded_96 : decode cX8_rounded 96 = .ok (.lload 12, 2) := by decide +kernel
theorem dX8_rounded_98 : decode cX8_rounded 98 = .ok (.lload 10, 2) := by decide +kernel
theorem dX8_rounded_100 : decode cX8_rounded 100 = .ok (.lcmp, 1) := by decide +kernel
theorem dX8_rounded_101 : decode cX8_rounded 101 = .ok (.ifCond .gt 25, 3) := by decide +kernel
theorem dX8_rounded_104 : decode cX8_rounded 104 = .ok (.lload 12, 2) := by decide +kernel
theorem dX8_rounded_106 : decode cX8_rounded 106 = .ok (.lload 10, 2) := by decide +kernel
theorem dX8_rounded_108 : decode cX8_rounded 108 = .ok (.lcmp, 1) := by decide +kernel
theorem dX8_rounded_109 : decode cX8_rounded 109 = .ok (.ifCond .ne 23, 3) := by decide +kernel
theorem dX8_rounded_112 : decode cX8_rounded 112 = .ok (.iload 4, 2) := by decide +kernel
theorem dX8_rounded_114 : decode cX8_rounded 114 = .ok (.ifCond .ne 12, 3) := by decide +kernel
theorem dX8_rounded_117 : decode cX8_rounded 117 = .ok (.lload 8, 2) := by decide +kernel
theorem dX8_rounded_119 : decode cX8_rounded 119 = .ok (.lconst 1, 1) := by decide +kernel
theorem dX8_rounded_120 : decode cX8_rounded 120 = .ok (.land, 1) := by decide +kernel
theorem dX8_rounded_121 : decode cX8_rounded 121 = .ok (.lconst 1, 1) := by decide +kernel
theorem dX8_rounded_122 : decode cX8_rounded 122 = .ok (.lcmp, 1) := by decide +kernel
theorem dX8_rounded_123 : decode cX8_rounded 123 = .ok (.ifCond .ne 9, 3) := by decide +kernel
theorem dX8_rounded_126 : decode cX8_rounded 126 = .ok (.lload 8, 2) := by decide +kernel
theorem dX8_rounded_128 : decode cX8_rounded 128 = .ok (.lconst 1, 1) := by decide +kernel
theorem dX8_rounded_129 : decode cX8_rounded 129 = .ok (.ladd, 1) := by decide +kernel
theorem dX8_rounded_130 : decode cX8_rounded 130 = .ok (.lstore 8, 2) := by decide +kernel
theorem dX8_rounded_132 : decode cX8_rounded 132 = .ok (.lload 8, 2) := by decide +kernel
theorem dX8_rounded_134 : decode cX8_rounded 134 = .ok (.ldc2_w 85, 3) := by decide +kernel
theorem dX8_rounded_137 : decode cX8_rounded 137 = .ok (.lcmp, 1) := by decide +kernel
theorem dX8_rounded_138 : decode cX8_rounded 138 = .ok (.ifCond .ne 11, 3) := by decide +kernel
theorem dX8_rounded_141 : decode cX8_rounded 141 = .ok (.ldc2_w 87, 3) := by decide +kernel
theorem dX8_rounded_144 : decode cX8_rounded 144 = .ok (.lstore 8, 2) := by decide +kernel
theorem dX8_rounded_146 : decode cX8_rounded 146 = .ok (.iinc 6 1, 3) := by decide +kernel
theorem dX8_rounded_149 : decode cX8_rounded 149 = .ok (.lload 8, 2) := by decide +kernel
theorem dX8_rounded_151 : decode cX8_rounded 151 = .ok (.ldc2_w 87, 3) := by decide +kernel
theorem dX8_rounded_154 : decode cX8_rounded 154 = .ok (.lcmp, 1) := by decide +kernel
theorem dX8_rounded_155 : decode cX8_rounded 155 = .ok (.ifCond .ge 10, 3) := by decide +kernel
theorem dX8_rounded_158 : decode cX8_rounded 158 = .ok (.iload 5, 2) := by decide +kernel
theorem dX8_rounded_160 : decode cX8_rounded 160 = .ok (.lload 8, 2) := by decide +kernel
theorem dX8_rounded_162 : decode cX8_rounded 162 = .ok (.l2i, 1) := by decide +kernel
theorem dX8_rounded_163 : decode cX8_rounded 163 = .ok (.ior, 1) := by decide +kernel
theorem dX8_rounded_164 : decode cX8_rounded 164 = .ok (.ireturn, 1) := by decide +kernel
theorem dX8_rounded_165 : decode cX8_rounded 165 = .ok (.iload 6, 2) := by decide +kernel
theorem dX8_rounded_167 : decode cX8_rounded 167 = .ok (.bipush 104, 2) := by decide +kernel
theorem dX8_rounded_169 : decode cX8_rounded 169 = .ok (.if_icmp .le 9, 3) := by decide +kernel
theorem dX8_rounded_172 : decode cX8_rounded 172 = .ok (.iload 5, 2) := by decide +kernel
theorem dX8_rounded_174 : decode cX8_rounded 174 = .ok (.ldc 89, 2) := by decide +kernel
theorem dX8_rounded_176 : decode cX8_rounded 176 = .ok (.ior, 1) := by decide +kernel
theorem dX8_rounded_177 : decode cX8_rounded 177 = .ok (.ireturn, 1) := by decide +kernel
theorem dX8_rounded_178 : decode cX8_rounded 178 = .ok (.iload 5, 2) := by decide +kernel
theorem dX8_rounded_180 : decode cX8_rounded 180 = .ok (.iload 6, 2) := by decide +kernel
theorem dX8_rounded_182 : decode cX8_rounded 182 = .ok (.sipush 150, 3) := by decide +kernel
theorem dX8_rounded_185 : decode cX8_rounded 185 = .ok (.iadd, 1) := by decide +kernel
theorem dX8_rounded_186 : decode cX8_rounded 186 = .ok (.bipush 23, 2) := by decide +kernel
theorem dX8_rounded_188 : decode cX8_rounded 188 = .ok (.ishl, 1) := by decide +kernel
theorem dX8_rounded_189 : decode cX8_rounded 189 = .ok (.ior, 1) := by decide +kernel
theorem dX8_rounded_190 : decode cX8_rounded 190 = .ok (.lload 8, 2) := by decide +kernel
theorem dX8_rounded_192 : decode cX8_rounded 192 = .ok (.l2i, 1) := by decide +kernel
theorem dX8_rounded_193 : decode cX8_rounded 193 = .ok (.ldc 76, 2) := by decide +kernel
theorem dX8_rounded_195 : decode cX8_rounded 195 = .ok (.iand, 1) := by decide +kernel
theorem dX8_rounded_196 : decode cX8_rounded 196 = .ok (.ior, 1) := by decide +kernel
theorem dX8_rounded_197 : decode cX8_rounded 197 = .ok (.ireturn, 1) := by decide +kernel
theorem dX8_product_0 : decode cX8_product 0 = .ok (.iload_n 0, 1) := by decide +kernel
theorem dX8_product_1 : decode cX8_product 1 = .ok (.iload_n 1, 1) := by decide +kernel
theorem dX8_product_2 : decode cX8_product 2 = .ok (.ixor, 1) := by decide +kernel
theorem dX8_product_3 : decode cX8_product 3 = .ok (.ifCond .ge 7, 3) := by decide +kernel
theorem dX8_product_6 : decode cX8_product 6 = .ok (.iconst 1, 1) := by decide +kernel
theorem dX8_product_7 : decode cX8_product 7 = .ok (.goto 4, 3) := by decide +kernel
theorem dX8_product_10 : decode cX8_product 10 = .ok (.iconst 0, 1) := by decide +kernel
theorem dX8_product_11 : decode cX8_product 11 = .ok (.istore_n 2, 1) := by decide +kernel
theorem dX8_product_12 : decode cX8_product 12 = .ok (.iload_n 0, 1) := by decide +kernel
theorem dX8_product_13 : decode cX8_product 13 = .ok (.invokestatic 90, 3) := by decide +kernel
theorem dX8_product_16 : decode cX8_product 16 = .ok (.iload_n 1, 1) := by decide +kernel
theorem dX8_product_17 : decode cX8_product 17 = .ok (.invokestatic 90, 3) := by decide +kernel
theorem dX8_product_20 : decode cX8_product 20 = .ok (.lmul, 1) := by decide +kernel
theorem dX8_product_21 : decode cX8_product 21 = .ok (.lstore_n 3, 1) := by decide +kernel
theorem dX8_product_22 : decode cX8_product 22 = .ok (.lload_n 3, 1) := by decide +kernel
theorem dX8_product_23 : decode cX8_product 23 = .ok (.lconst 0, 1) := by decide +kernel
theorem dX8_product_24 : decode cX8_product 24 = .ok (.lcmp, 1) := by decide +kernel
theorem dX8_product_25 : decode cX8_product 25 = .ok (.ifCond .ne 14, 3) := by decide +kernel
theorem dX8_product_28 : decode cX8_product 28 = .ok (.iload_n 2, 1) := by decide +kernel
theorem dX8_product_29 : decode cX8_product 29 = .ok (.ifCond .eq 8, 3) := by decide +kernel
theorem dX8_product_32 : decode cX8_product 32 = .ok (.ldc 78, 2) := by decide +kernel
theorem dX8_product_34 : decode cX8_product 34 = .ok (.goto 4, 3) := by decide +kernel
theorem dX8_product_37 : decode cX8_product 37 = .ok (.iconst 0, 1) := by decide +kernel
theorem dX8_product_38 : decode cX8_product 38 = .ok (.ireturn, 1) := by decide +kernel
theorem dX8_product_39 : decode cX8_product 39 = .ok (.iload_n 2, 1) := by decide +kernel
theorem dX8_product_40 : decode cX8_product 40 = .ok (.lload_n 3, 1) := by decide +kernel
theorem dX8_product_41 : decode cX8_product 41 = .ok (.iload_n 0, 1) := by decide +kernel
theorem dX8_product_42 : decode cX8_product 42 = .ok (.invokestatic 94, 3) := by decide +kernel
theorem dX8_product_45 : decode cX8_product 45 = .ok (.iload_n 1, 1) := by decide +kernel
theorem dX8_product_46 : decode cX8_product 46 = .ok (.invokestatic 94, 3) := by decide +kernel
theorem dX8_product_49 : decode cX8_product 49 = .ok (.iadd, 1) := by decide +kernel
theorem dX8_product_50 : decode cX8_product 50 = .ok (.iconst 0, 1) := by decide +kernel
theorem dX8_product_51 : decode cX8_product 51 = .ok (.invokestatic 98, 3) := by decide +kernel
theorem dX8_product_54 : decode cX8_product 54 = .ok (.ireturn, 1) := by decide +kernel
theorem dX8_sum_0 : decode cX8_sum 0 = .ok (.iload_n 0, 1) := by decide +kernel
theorem dX8_sum_1 : decode cX8_sum 1 = .ok (.invokestatic 90, 3) := by decide +kernel
theorem dX8_sum_4 : decode cX8_sum 4 = .ok (.lconst 0, 1) := by decide +kernel
theorem dX8_sum_5 : decode cX8_sum 5 = .ok (.lcmp, 1) := by decide +kernel
theorem dX8_sum_6 : decode cX8_sum 6 = .ok (.ifCond .ne 19, 3) := by decide +kernel
theorem dX8_sum_9 : decode cX8_sum 9 = .ok (.iload_n 1, 1) := by decide +kernel
theorem dX8_sum_10 : decode cX8_sum 10 = .ok (.invokestatic 90, 3) := by decide +kernel
theorem dX8_sum_13 : decode cX8_sum 13 = .ok (.lconst 0, 1) := by decide +kernel
theorem dX8_sum_14 : decode cX8_sum 14 = .ok (.lcmp, 1) := by decide +kernel
theorem dX8_sum_15 : decode cX8_sum 15 = .ok (.ifCond .ne 10, 3) := by decide +kernel
theorem dX8_sum_18 : decode cX8_sum 18 = .ok (.iload_n 0, 1) := by decide +kernel
theorem dX8_sum_19 : decode cX8_sum 19 = .ok (.iload_n 1, 1) := by decide +kernel
theorem dX8_sum_20 : decode cX8_sum 20 = .ok (.iand, 1) := by decide +kernel
theorem dX8_sum_21 : decode cX8_sum 21 = .ok (.ldc 78, 2) := by decide +kernel
theorem dX8_sum_23 : decode cX8_sum 23 = .ok (.iand, 1) := by decide +kernel
theorem dX8_sum_24 : decode cX8_sum 24 = .ok (.ireturn, 1) := by decide +kernel
theorem dX8_sum_25 : decode cX8_sum 25 = .ok (.iload_n 0, 1) := by decide +kernel
theorem dX8_sum_26 : decode cX8_sum 26 = .ok (.invokestatic 90, 3) := by decide +kernel
theorem dX8_sum_29 : decode cX8_sum 29 = .ok (.lconst 0, 1) := by decide +kernel
theorem dX8_sum_30 : decode cX8_sum 30 = .ok (.lcmp, 1) := by decide +kernel
theorem dX8_sum_31 : decode cX8_sum 31 = .ok (.ifCond .ne 5, 3) := by decide +kernel
theorem dX8_sum_34 : decode cX8_sum 34 = .ok (.iload_n 1, 1) := by decide +kernel
theorem dX8_sum_35 : decode cX8_sum 35 = .ok (.ireturn, 1) := by decide +kernel
theorem dX8_sum_36 : decode cX8_sum 36 = .ok (.iload_n 1, 1) := by decide +kernel
theorem dX8_sum_37 : decode cX8_sum 37 = .ok (.invokestatic 90, 3) := by decide +kernel
theorem dX8_sum_40 : decode cX8_sum 40 = .ok (.lconst 0, 1) := by decide +kernel
theorem dX8_sum_41 : decode cX8_sum 41 = .ok (.lcmp, 1) := by decide +kernel
theorem dX8_sum_42 : decode cX8_sum 42 = .ok (.ifCond .ne 5, 3) := by decide +kernel
theorem dX8_sum_45 : decode cX8_sum 45 = .ok (.iload_n 0, 1) := by decide +kernel
theorem dX8_sum_46 : decode cX8_sum 46 = .ok (.ireturn, 1) := by decide +kernel
theorem dX8_sum_47 : decode cX8_sum 47 = .ok (.iload_n 0, 1) := by decide +kernel
theorem dX8_sum_48 : decode cX8_sum 48 = .ok (.invokestatic 94, 3) := by decide +kernel
theorem dX8_sum_51 : decode cX8_sum 51 = .ok (.iload_n 1, 1) := by decide +kernel
theorem dX8_sum_52 : decode cX8_sum 52 = .ok (.invokestatic 94, 3) := by decide +kernel
theorem dX8_sum_55 : decode cX8_sum 55 = .ok (.if_icmp .ge 7, 3) := by decide +kernel
theorem dX8_sum_58 : decode cX8_sum 58 = .ok (.iconst 1, 1) := by decide +kernel
theorem dX8_sum_59 : decode cX8_sum 59 = .ok (.goto 4, 3) := by decide +kernel
theorem dX8_sum_62 : decode cX8_sum 62 = .ok (.iconst 0, 1) := by decide +kernel
theorem dX8_sum_63 : decode cX8_sum 63 = .ok (.istore_n 2, 1) := by decide +kernel
theorem dX8_sum_64 : decode cX8_sum 64 = .ok (.iload_n 2, 1) := by decide +kernel
theorem dX8_sum_65 : decode cX8_sum 65 = .ok (.ifCond .eq 7, 3) := by decide +kernel
theorem dX8_sum_68 : decode cX8_sum 68 = .ok (.iload_n 1, 1) := by decide +kernel
theorem dX8_sum_69 : decode cX8_sum 69 = .ok (.goto 4, 3) := by decide +kernel
theorem dX8_sum_72 : decode cX8_sum 72 = .ok (.iload_n 0, 1) := by decide +kernel
theorem dX8_sum_73 : decode cX8_sum 73 = .ok (.istore_n 3, 1) := by decide +kernel
theorem dX8_sum_74 : decode cX8_sum 74 = .ok (.iload_n 2, 1) := by decide +kernel
theorem dX8_sum_75 : decode cX8_sum 75 = .ok (.ifCond .eq 7, 3) := by decide +kernel
theorem dX8_sum_78 : decode cX8_sum 78 = .ok (.iload_n 0, 1) := by decide +kernel
theorem dX8_sum_79 : decode cX8_sum 79 = .ok (.goto 4, 3) := by decide +kernel
theorem dX8_sum_82 : decode cX8_sum 82 = .ok (.iload_n 1, 1) := by decide +kernel
theorem dX8_sum_83 : decode cX8_sum 83 = .ok (.istore 4, 2) := by decide +kernel
theorem dX8_sum_85 : decode cX8_sum 85 = .ok (.iload_n 3, 1) := by decide +kernel
theorem dX8_sum_86 : decode cX8_sum 86 = .ok (.invokestatic 94, 3) := by decide +kernel
theorem dX8_sum_89 : decode cX8_sum 89 = .ok (.iload 4, 2) := by decide +kernel
theorem dX8_sum_91 : decode cX8_sum 91 = .ok (.invokestatic 94, 3) := by decide +kernel
theorem dX8_sum_94 : decode cX8_sum 94 = .ok (.isub, 1) := by decide +kernel
theorem dX8_sum_95 : decode cX8_sum 95 = .ok (.istore 5, 2) := by decide +kernel
theorem dX8_sum_97 : decode cX8_sum 97 = .ok (.iload 5, 2) := by decide +kernel
theorem dX8_sum_99 : decode cX8_sum 99 = .ok (.bipush 38, 2) := by decide +kernel
theorem dX8_sum_101 : decode cX8_sum 101 = .ok (.if_icmp .ge 8, 3) := by decide +kernel
theorem dX8_sum_104 : decode cX8_sum 104 = .ok (.iload 5, 2) := by decide +kernel
theorem dX8_sum_106 : decode cX8_sum 106 = .ok (.goto 5, 3) := by decide +kernel
theorem dX8_sum_109 : decode cX8_sum 109 = .ok (.bipush 38, 2) := by decide +kernel
theorem dX8_sum_111 : decode cX8_sum 111 = .ok (.istore 6, 2) := by decide +kernel
theorem dX8_sum_113 : decode cX8_sum 113 = .ok (.iload_n 3, 1) := by decide +kernel
theorem dX8_sum_114 : decode cX8_sum 114 = .ok (.invokestatic 90, 3) := by decide +kernel
theorem dX8_sum_117 : decode cX8_sum 117 = .ok (.iload 6, 2) := by decide +kernel
theorem dX8_sum_119 : decode cX8_sum 119 = .ok (.lshl, 1) := by decide +kernel
theorem dX8_sum_120 : decode cX8_sum 120 = .ok (.lstore 7, 2) := by decide +kernel
theorem dX8_sum_122 : decode cX8_sum 122 = .ok (.iload 4, 2) := by decide +kernel
theorem dX8_sum_124 : decode cX8_sum 124 = .ok (.invokestatic 90, 3) := by decide +kernel
theorem dX8_sum_127 : decode cX8_sum 127 = .ok (.lstore 9, 2) := by decide +kernel
theorem dX8_sum_129 : decode cX8_sum 129 = .ok (.iconst 0, 1) := by decide +kernel
theorem dX8_sum_130 : decode cX8_sum 130 = .ok (.istore 11, 2) := by decide +kernel
theorem dX8_sum_132 : decode cX8_sum 132 = .ok (.iload 6, 2) := by decide +kernel
theorem dX8_sum_134 : decode cX8_sum 134 = .ok (.istore 12, 2) := by decide +kernel
theorem dX8_sum_136 : decode cX8_sum 136 = .ok (.iload 12, 2) := by decide +kernel
theorem dX8_sum_138 : decode cX8_sum 138 = .ok (.iload 5, 2) := by decide +kernel
theorem dX8_sum_140 : decode cX8_sum 140 = .ok (.if_icmp .ge 34, 3) := by decide +kernel
theorem dX8_sum_143 : decode cX8_sum 143 = .ok (.lload 9, 2) := by decide +kernel
theorem dX8_sum_145 : decode cX8_sum 145 = .ok (.lconst 0, 1) := by decide +kernel
theorem dX8_sum_146 : decode cX8_sum 146 = .ok (.lcmp, 1) := by decide +kernel
theorem dX8_sum_147 : decode cX8_sum 147 = .ok (.ifCond .le 27, 3) := by decide +kernel
theorem dX8_sum_150 : decode cX8_sum 150 = .ok (.lload 9, 2) := by decide +kernel
theorem dX8_sum_152 : decode cX8_sum 152 = .ok (.lconst 1, 1) := by decide +kernel
theorem dX8_sum_153 : decode cX8_sum 153 = .ok (.land, 1) := by decide +kernel
theorem dX8_sum_154 : decode cX8_sum 154 = .ok (.lconst 1, 1) := by decide +kernel
theorem dX8_sum_155 : decode cX8_sum 155 = .ok (.lcmp, 1) := by decide +kernel
theorem dX8_sum_156 : decode cX8_sum 156 = .ok (.ifCond .ne 6, 3) := by decide +kernel
theorem dX8_sum_159 : decode cX8_sum 159 = .ok (.iconst 1, 1) := by decide +kernel
theorem dX8_sum_160 : decode cX8_sum 160 = .ok (.istore 11, 2) := by decide +kernel
theorem dX8_sum_162 : decode cX8_sum 162 = .ok (.lload 9, 2) := by decide +kernel
theorem dX8_sum_164 : decode cX8_sum 164 = .ok (.iconst 1, 1) := by decide +kernel
theorem dX8_sum_165 : decode cX8_sum 165 = .ok (.lshr, 1) := by decide +kernel
theorem dX8_sum_166 : decode cX8_sum 166 = .ok (.lstore 9, 2) := by decide +kernel
theorem dX8_sum_168 : decode cX8_sum 168 = .ok (.iinc 12 1, 3) := by decide +kernel
theorem dX8_sum_171 : decode cX8_sum 171 = .ok (.goto (-35), 3) := by decide +kernel
theorem dX8_sum_174 : decode cX8_sum 174 = .ok (.iload_n 3, 1) := by decide +kernel
theorem dX8_sum_175 : decode cX8_sum 175 = .ok (.invokestatic 94, 3) := by decide +kernel
theorem dX8_sum_178 : decode cX8_sum 178 = .ok (.iload 6, 2) := by decide +kernel
theorem dX8_sum_180 : decode cX8_sum 180 = .ok (.isub, 1) := by decide +kernel
theorem dX8_sum_181 : decode cX8_sum 181 = .ok (.istore 12, 2) := by decide +kernel
theorem dX8_sum_183 : decode cX8_sum 183 = .ok (.iload_n 3, 1) := by decide +kernel
theorem dX8_sum_184 : decode cX8_sum 184 = .ok (.iload 4, 2) := by decide +kernel
theorem dX8_sum_186 : decode cX8_sum 186 = .ok (.ixor, 1) := by decide +kernel
theorem dX8_sum_187 : decode cX8_sum 187 = .ok (.ifCond .lt 25, 3) := by decide +kernel
theorem dX8_sum_190 : decode cX8_sum 190 = .ok (.iload_n 3, 1) := by decide +kernel
theorem dX8_sum_191 : decode cX8_sum 191 = .ok (.ifCond .ge 7, 3) := by decide +kernel
theorem dX8_sum_194 : decode cX8_sum 194 = .ok (.iconst 1, 1) := by decide +kernel
theorem dX8_sum_195 : decode cX8_sum 195 = .ok (.goto 4, 3) := by decide +kernel
theorem dX8_sum_198 : decode cX8_sum 198 = .ok (.iconst 0, 1) := by decide +kernel
theorem dX8_sum_199 : decode cX8_sum 199 = .ok (.lload 7, 2) := by decide +kernel
theorem dX8_sum_201 : decode cX8_sum 201 = .ok (.lload 9, 2) := by decide +kernel
theorem dX8_sum_203 : decode cX8_sum 203 = .ok (.ladd, 1) := by decide +kernel
theorem dX8_sum_204 : decode cX8_sum 204 = .ok (.iload 12, 2) := by decide +kernel
theorem dX8_sum_206 : decode cX8_sum 206 = .ok (.iload 11, 2) := by decide +kernel
theorem dX8_sum_208 : decode cX8_sum 208 = .ok (.invokestatic 98, 3) := by decide +kernel
theorem dX8_sum_211 : decode cX8_sum 211 = .ok (.ireturn, 1) := by decide +kernel
theorem dX8_sum_212 : decode cX8_sum 212 = .ok (.iload 11, 2) := by decide +kernel
theorem dX8_sum_214 : decode cX8_sum 214 = .ok (.ifCond .eq 26, 3) := by decide +kernel
theorem dX8_sum_217 : decode cX8_sum 217 = .ok (.iload_n 3, 1) := by decide +kernel
theorem dX8_sum_218 : decode cX8_sum 218 = .ok (.ifCond .ge 7, 3) := by decide +kernel
theorem dX8_sum_221 : decode cX8_sum 221 = .ok (.iconst 1, 1) := by decide +kernel
theorem dX8_sum_222 : decode cX8_sum 222 = .ok (.goto 4, 3) := by decide +kernel
theorem dX8_sum_225 : decode cX8_sum 225 = .ok (.iconst 0, 1) := by decide +kernel
theorem dX8_sum_226 : decode cX8_sum 226 = .ok (.lload 7, 2) := by decide +kernel
theorem dX8_sum_228 : decode cX8_sum 228 = .ok (.lload 9, 2) := by decide +kernel
theorem dX8_sum_230 : decode cX8_sum 230 = .ok (.lsub, 1) := by decide +kernel
theorem dX8_sum_231 : decode cX8_sum 231 = .ok (.lconst 1, 1) := by decide +kernel
theorem dX8_sum_232 : decode cX8_sum 232 = .ok (.lsub, 1) := by decide +kernel
theorem dX8_sum_233 : decode cX8_sum 233 = .ok (.iload 12, 2) := by decide +kernel
theorem dX8_sum_235 : decode cX8_sum 235 = .ok (.iconst 1, 1) := by decide +kernel
theorem dX8_sum_236 : decode cX8_sum 236 = .ok (.invokestatic 98, 3) := by decide +kernel
theorem dX8_sum_239 : decode cX8_sum 239 = .ok (.ireturn, 1) := by decide +kernel
theorem dX8_sum_240 : decode cX8_sum 240 = .ok (.lload 7, 2) := by decide +kernel
theorem dX8_sum_242 : decode cX8_sum 242 = .ok (.lload 9, 2) := by decide +kernel
theorem dX8_sum_244 : decode cX8_sum 244 = .ok (.lcmp, 1) := by decide +kernel
theorem dX8_sum_245 : decode cX8_sum 245 = .ok (.ifCond .ne 5, 3) := by decide +kernel
theorem dX8_sum_248 : decode cX8_sum 248 = .ok (.iconst 0, 1) := by decide +kernel
theorem dX8_sum_249 : decode cX8_sum 249 = .ok (.ireturn, 1) := by decide +kernel
theorem dX8_sum_250 : decode cX8_sum 250 = .ok (.lload 7, 2) := by decide +kernel
theorem dX8_sum_252 : decode cX8_sum 252 = .ok (.lload 9, 2) := by decide +kernel
theorem dX8_sum_254 : decode cX8_sum 254 = .ok (.lcmp, 1) := by decide +kernel
theorem dX8_sum_255 : decode cX8_sum 255 = .ok (.ifCond .le 26, 3) := by decide +kernel
theorem dX8_sum_258 : decode cX8_sum 258 = .ok (.iload_n 3, 1) := by decide +kernel
theorem dX8_sum_259 : decode cX8_sum 259 = .ok (.ifCond .ge 7, 3) := by decide +kernel
theorem dX8_sum_262 : decode cX8_sum 262 = .ok (.iconst 1, 1) := by decide +kernel
theorem dX8_sum_263 : decode cX8_sum 263 = .ok (.goto 4, 3) := by decide +kernel
theorem dX8_sum_266 : decode cX8_sum 266 = .ok (.iconst 0, 1) := by decide +kernel
theorem dX8_sum_267 : decode cX8_sum 267 = .ok (.lload 7, 2) := by decide +kernel
theorem dX8_sum_269 : decode cX8_sum 269 = .ok (.lload 9, 2) := by decide +kernel
theorem dX8_sum_271 : decode cX8_sum 271 = .ok (.lsub, 1) := by decide +kernel
theorem dX8_sum_272 : decode cX8_sum 272 = .ok (.iload 12, 2) := by decide +kernel
theorem dX8_sum_274 : decode cX8_sum 274 = .ok (.iconst 0, 1) := by decide +kernel
theorem dX8_sum_275 : decode cX8_sum 275 = .ok (.invokestatic 98, 3) := by decide +kernel
theorem dX8_sum_278 : decode cX8_sum 278 = .ok (.goto 24, 3) := by decide +kernel
theorem dX8_sum_281 : decode cX8_sum 281 = .ok (.iload 4, 2) := by decide +kernel
theorem dX8_sum_283 : decode cX8_sum 283 = .ok (.ifCond .ge 7, 3) := by decide +kernel
theorem dX8_sum_286 : decode cX8_sum 286 = .ok (.iconst 1, 1) := by decide +kernel
theorem dX8_sum_287 : decode cX8_sum 287 = .ok (.goto 4, 3) := by decide +kernel
theorem dX8_sum_290 : decode cX8_sum 290 = .ok (.iconst 0, 1) := by decide +kernel
theorem dX8_sum_291 : decode cX8_sum 291 = .ok (.lload 9, 2) := by decide +kernel
theorem dX8_sum_293 : decode cX8_sum 293 = .ok (.lload 7, 2) := by decide +kernel
theorem dX8_sum_295 : decode cX8_sum 295 = .ok (.lsub, 1) := by decide +kernel
theorem dX8_sum_296 : decode cX8_sum 296 = .ok (.iload 12, 2) := by decide +kernel
theorem dX8_sum_298 : decode cX8_sum 298 = .ok (.iconst 0, 1) := by decide +kernel
theorem dX8_sum_299 : decode cX8_sum 299 = .ok (.invokestatic 98, 3) := by decide +kernel
theorem dX8_sum_302 : decode cX8_sum 302 = .ok (.ireturn, 1) := by decide +kernel
theorem dX8_ofInt_0 : decode cX8_ofInt 0 = .ok (.iload_n 0, 1) := by decide +kernel
theorem dX8_ofInt_1 : decode cX8_ofInt 1 = .ok (.ifCond .ne 5, 3) := by decide +kernel
theorem dX8_ofInt_4 : decode cX8_ofInt 4 = .ok (.iconst 0, 1) := by decide +kernel
theorem dX8_ofInt_5 : decode cX8_ofInt 5 = .ok (.ireturn, 1) := by decide +kernel
theorem dX8_ofInt_6 : decode cX8_ofInt 6 = .ok (.iload_n 0, 1) := by decide +kernel
theorem dX8_ofInt_7 : decode cX8_ofInt 7 = .ok (.ifCond .ge 9, 3) := by decide +kernel
theorem dX8_ofInt_10 : decode cX8_ofInt 10 = .ok (.iload_n 0, 1) := by decide +kernel
theorem dX8_ofInt_11 : decode cX8_ofInt 11 = .ok (.i2l, 1) := by decide +kernel
theorem dX8_ofInt_12 : decode cX8_ofInt 12 = .ok (.lneg, 1) := by decide +kernel
theorem dX8_ofInt_13 : decode cX8_ofInt 13 = .ok (.goto 5, 3) := by decide +kernel
theorem dX8_ofInt_16 : decode cX8_ofInt 16 = .ok (.iload_n 0, 1) := by decide +kernel
theorem dX8_ofInt_17 : decode cX8_ofInt 17 = .ok (.i2l, 1) := by decide +kernel
theorem dX8_ofInt_18 : decode cX8_ofInt 18 = .ok (.lstore_n 1, 1) := by decide +kernel
theorem dX8_ofInt_19 : decode cX8_ofInt 19 = .ok (.iload_n 0, 1) := by decide +kernel
theorem dX8_ofInt_20 : decode cX8_ofInt 20 = .ok (.ifCond .ge 7, 3) := by decide +kernel
theorem dX8_ofInt_23 : decode cX8_ofInt 23 = .ok (.iconst 1, 1) := by decide +kernel
theorem dX8_ofInt_24 : decode cX8_ofInt 24 = .ok (.goto 4, 3) := by decide +kernel
theorem dX8_ofInt_27 : decode cX8_ofInt 27 = .ok (.iconst 0, 1) := by decide +kernel
theorem dX8_ofInt_28 : decode cX8_ofInt 28 = .ok (.lload_n 1, 1) := by decide +kernel
theorem dX8_ofInt_29 : decode cX8_ofInt 29 = .ok (.iconst 0, 1) := by decide +kernel
theorem dX8_ofInt_30 : decode cX8_ofInt 30 = .ok (.iconst 0, 1) := by decide +kernel
theorem dX8_ofInt_31 : decode cX8_ofInt 31 = .ok (.invokestatic 98, 3) := by decide +kernel
theorem dX8_ofInt_34 : decode cX8_ofInt 34 = .ok (.ireturn, 1) := by decide +kernel
theorem dX8_toInt_0 : decode cX8_toInt 0 = .ok (.iload_n 0, 1) := by decide +kernel
theorem dX8_toInt_1 : decode cX8_toInt 1 = .ok (.invokestatic 90, 3) := by decide +kernel
theorem dX8_toInt_4 : decode cX8_toInt 4 = .ok (.lstore_n 1, 1) := by decide +kernel
theorem dX8_toInt_5 : decode cX8_toInt 5 = .ok (.iload_n 0, 1) := by decide +kernel
theorem dX8_toInt_6 : decode cX8_toInt 6 = .ok (.invokestatic 94, 3) := by decide +kernel
theorem dX8_toInt_9 : decode cX8_toInt 9 = .ok (.istore_n 3, 1) := by decide +kernel
theorem dX8_toInt_10 : decode cX8_toInt 10 = .ok (.iconst 0, 1) := by decide +kernel
theorem dX8_toInt_11 : decode cX8_toInt 11 = .ok (.istore 4, 2) := by decide +kernel
theorem dX8_toInt_13 : decode cX8_toInt 13 = .ok (.iload 4, 2) := by decide +kernel
theorem dX8_toInt_15 : decode cX8_toInt 15 = .ok (.iload_n 3, 1) := by decide +kernel
theorem dX8_toInt_16 : decode cX8_toInt 16 = .ok (.if_icmp .le 19, 3) := by decide +kernel
theorem dX8_toInt_19 : decode cX8_toInt 19 = .ok (.lload_n 1, 1) := by decide +kernel
theorem dX8_toInt_20 : decode cX8_toInt 20 = .ok (.lconst 0, 1) := by decide +kernel
theorem dX8_toInt_21 : decode cX8_toInt 21 = .ok (.lcmp, 1) := by decide +kernel
theorem dX8_toInt_22 : decode cX8_toInt 22 = .ok (.ifCond .le 13, 3) := by decide +kernel
theorem dX8_toInt_25 : decode cX8_toInt 25 = .ok (.lload_n 1, 1) := by decide +kernel
theorem dX8_toInt_26 : decode cX8_toInt 26 = .ok (.iconst 1, 1) := by decide +kernel
theorem dX8_toInt_27 : decode cX8_toInt 27 = .ok (.lshr, 1) := by decide +kernel
theorem dX8_toInt_28 : decode cX8_toInt 28 = .ok (.lstore_n 1, 1) := by decide +kernel
theorem dX8_toInt_29 : decode cX8_toInt 29 = .ok (.iinc 4 (-1), 3) := by decide +kernel
theorem dX8_toInt_32 : decode cX8_toInt 32 = .ok (.goto (-19), 3) := by decide +kernel
theorem dX8_toInt_35 : decode cX8_toInt 35 = .ok (.iconst 0, 1) := by decide +kernel
theorem dX8_toInt_36 : decode cX8_toInt 36 = .ok (.istore 4, 2) := by decide +kernel
theorem dX8_toInt_38 : decode cX8_toInt 38 = .ok (.iload 4, 2) := by decide +kernel
theorem dX8_toInt_40 : decode cX8_toInt 40 = .ok (.iload_n 3, 1) := by decide +kernel
theorem dX8_toInt_41 : decode cX8_toInt 41 = .ok (.if_icmp .ge 21, 3) := by decide +kernel
theorem dX8_toInt_44 : decode cX8_toInt 44 = .ok (.lload_n 1, 1) := by decide +kernel
theorem dX8_toInt_45 : decode cX8_toInt 45 = .ok (.ldc2_w 102, 3) := by decide +kernel
theorem dX8_toInt_48 : decode cX8_toInt 48 = .ok (.lcmp, 1) := by decide +kernel
theorem dX8_toInt_49 : decode cX8_toInt 49 = .ok (.ifCond .ge 13, 3) := by decide +kernel
theorem dX8_toInt_52 : decode cX8_toInt 52 = .ok (.lload_n 1, 1) := by decide +kernel
theorem dX8_toInt_53 : decode cX8_toInt 53 = .ok (.iconst 1, 1) := by decide +kernel
theorem dX8_toInt_54 : decode cX8_toInt 54 = .ok (.lshl, 1) := by decide +kernel
theorem dX8_toInt_55 : decode cX8_toInt 55 = .ok (.lstore_n 1, 1) := by decide +kernel
theorem dX8_toInt_56 : decode cX8_toInt 56 = .ok (.iinc 4 1, 3) := by decide +kernel
theorem dX8_toInt_59 : decode cX8_toInt 59 = .ok (.goto (-21), 3) := by decide +kernel
theorem dX8_toInt_62 : decode cX8_toInt 62 = .ok (.iload_n 0, 1) := by decide +kernel
theorem dX8_toInt_63 : decode cX8_toInt 63 = .ok (.ifCond .ge 20, 3) := by decide +kernel
theorem dX8_toInt_66 : decode cX8_toInt 66 = .ok (.lload_n 1, 1) := by decide +kernel
theorem dX8_toInt_67 : decode cX8_toInt 67 = .ok (.ldc2_w 104, 3) := by decide +kernel
theorem dX8_toInt_70 : decode cX8_toInt 70 = .ok (.lcmp, 1) := by decide +kernel
theorem dX8_toInt_71 : decode cX8_toInt 71 = .ok (.ifCond .le 8, 3) := by decide +kernel
theorem dX8_toInt_74 : decode cX8_toInt 74 = .ok (.ldc 78, 2) := by decide +kernel
theorem dX8_toInt_76 : decode cX8_toInt 76 = .ok (.goto 6, 3) := by decide +kernel
theorem dX8_toInt_79 : decode cX8_toInt 79 = .ok (.lload_n 1, 1) := by decide +kernel
theorem dX8_toInt_80 : decode cX8_toInt 80 = .ok (.lneg, 1) := by decide +kernel
theorem dX8_toInt_81 : decode cX8_toInt 81 = .ok (.l2i, 1) := by decide +kernel
theorem dX8_toInt_82 : decode cX8_toInt 82 = .ok (.ireturn, 1) := by decide +kernel
theorem dX8_toInt_83 : decode cX8_toInt 83 = .ok (.lload_n 1, 1) := by decide +kernel
theorem dX8_toInt_84 : decode cX8_toInt 84 = .ok (.ldc2_w 106, 3) := by decide +kernel
theorem dX8_toInt_87 : decode cX8_toInt 87 = .ok (.lcmp, 1) := by decide +kernel
theorem dX8_toInt_88 : decode cX8_toInt 88 = .ok (.ifCond .le 8, 3) := by decide +kernel
theorem dX8_toInt_91 : decode cX8_toInt 91 = .ok (.ldc 108, 2) := by decide +kernel
theorem dX8_toInt_93 : decode cX8_toInt 93 = .ok (.goto 5, 3) := by decide +kernel
theorem dX8_toInt_96 : decode cX8_toInt 96 = .ok (.lload_n 1, 1) := by decide +kernel
theorem dX8_toInt_97 : decode cX8_toInt 97 = .ok (.l2i, 1) := by decide +kernel
theorem dX8_toInt_98 : decode cX8_toInt 98 = .ok (.ireturn, 1) := by decide +kernel
theorem dX8_groupOf_0 : decode cX8_groupOf 0 = .ok (.iload_n 1, 1) := by decide +kernel
theorem dX8_groupOf_1 : decode cX8_groupOf 1 = .ok (.bipush 20, 2) := by decide +kernel
theorem dX8_groupOf_3 : decode cX8_groupOf 3 = .ok (.if_icmp .ne 7, 3) := by decide +kernel
theorem dX8_groupOf_6 : decode cX8_groupOf 6 = .ok (.iconst (-1), 1) := by decide +kernel
theorem dX8_groupOf_7 : decode cX8_groupOf 7 = .ok (.goto 12, 3) := by decide +kernel
theorem dX8_groupOf_10 : decode cX8_groupOf 10 = .ok (.aload_n 0, 1) := by decide +kernel
theorem dX8_groupOf_11 : decode cX8_groupOf 11 = .ok (.sipush 173, 3) := by decide +kernel
theorem dX8_groupOf_14 : decode cX8_groupOf 14 = .ok (.iload_n 1, 1) := by decide +kernel
theorem dX8_groupOf_15 : decode cX8_groupOf 15 = .ok (.iadd, 1) := by decide +kernel
theorem dX8_groupOf_16 : decode cX8_groupOf 16 = .ok (.iaload, 1) := by decide +kernel
theorem dX8_groupOf_17 : decode cX8_groupOf 17 = .ok (.iload_n 2, 1) := by decide +kernel
theorem dX8_groupOf_18 : decode cX8_groupOf 18 = .ok (.ishr, 1) := by decide +kernel
theorem dX8_groupOf_19 : decode cX8_groupOf 19 = .ok (.ireturn, 1) := by decide +kernel
theorem dX8_subOf_0 : decode cX8_subOf 0 = .ok (.iload_n 1, 1) := by decide +kernel
theorem dX8_subOf_1 : decode cX8_subOf 1 = .ok (.bipush 20, 2) := by decide +kernel
theorem dX8_subOf_3 : decode cX8_subOf 3 = .ok (.if_icmp .ne 7, 3) := by decide +kernel
theorem dX8_subOf_6 : decode cX8_subOf 6 = .ok (.iconst 0, 1) := by decide +kernel
theorem dX8_subOf_7 : decode cX8_subOf 7 = .ok (.goto 22, 3) := by decide +kernel
theorem dX8_subOf_10 : decode cX8_subOf 10 = .ok (.aload_n 0, 1) := by decide +kernel
theorem dX8_subOf_11 : decode cX8_subOf 11 = .ok (.sipush 173, 3) := by decide +kernel
theorem dX8_subOf_14 : decode cX8_subOf 14 = .ok (.iload_n 1, 1) := by decide +kernel
theorem dX8_subOf_15 : decode cX8_subOf 15 = .ok (.iadd, 1) := by decide +kernel
theorem dX8_subOf_16 : decode cX8_subOf 16 = .ok (.iaload, 1) := by decide +kernel
theorem dX8_subOf_17 : decode cX8_subOf 17 = .ok (.aload_n 0, 1) := by decide +kernel
theorem dX8_subOf_18 : decode cX8_subOf 18 = .ok (.sipush 173, 3) := by decide +kernel
theorem dX8_subOf_21 : decode cX8_subOf 21 = .ok (.iload_n 1, 1) := by decide +kernel
theorem dX8_subOf_22 : decode cX8_subOf 22 = .ok (.iadd, 1) := by decide +kernel
theorem dX8_subOf_23 : decode cX8_subOf 23 = .ok (.iaload, 1) := by decide +kernel
theorem dX8_subOf_24 : decode cX8_subOf 24 = .ok (.iload_n 2, 1) := by decide +kernel
theorem dX8_subOf_25 : decode cX8_subOf 25 = .ok (.ishr, 1) := by decide +kernel
theorem dX8_subOf_26 : decode cX8_subOf 26 = .ok (.iload_n 2, 1) := by decide +kernel
theorem dX8_subOf_27 : decode cX8_subOf 27 = .ok (.ishl, 1) := by decide +kernel
theorem dX8_subOf_28 : decode cX8_subOf 28 = .ok (.isub, 1) := by decide +kernel
theorem dX8_subOf_29 : decode cX8_subOf 29 = .ok (.ireturn, 1) := by decide +kernel
theorem dX8_limitOf_0 : decode cX8_limitOf 0 = .ok (.sipush 256, 3) := by decide +kernel
theorem dX8_limitOf_3 : decode cX8_limitOf 3 = .ok (.istore_n 3, 1) := by decide +kernel
theorem dX8_limitOf_4 : decode cX8_limitOf 4 = .ok (.iconst 0, 1) := by decide +kernel
theorem dX8_limitOf_5 : decode cX8_limitOf 5 = .ok (.istore 4, 2) := by decide +kernel
theorem dX8_limitOf_7 : decode cX8_limitOf 7 = .ok (.iload 4, 2) := by decide +kernel
theorem dX8_limitOf_9 : decode cX8_limitOf 9 = .ok (.aload_n 0, 1) := by decide +kernel
theorem dX8_limitOf_10 : decode cX8_limitOf 10 = .ok (.bipush 30, 2) := by decide +kernel
theorem dX8_limitOf_12 : decode cX8_limitOf 12 = .ok (.iaload, 1) := by decide +kernel
theorem dX8_limitOf_13 : decode cX8_limitOf 13 = .ok (.if_icmp .ge 33, 3) := by decide +kernel
theorem dX8_limitOf_16 : decode cX8_limitOf 16 = .ok (.aload_n 0, 1) := by decide +kernel
theorem dX8_limitOf_17 : decode cX8_limitOf 17 = .ok (.aload_n 0, 1) := by decide +kernel
theorem dX8_limitOf_18 : decode cX8_limitOf 18 = .ok (.sipush 152, 3) := by decide +kernel
theorem dX8_limitOf_21 : decode cX8_limitOf 21 = .ok (.iload 4, 2) := by decide +kernel
theorem dX8_limitOf_23 : decode cX8_limitOf 23 = .ok (.iadd, 1) := by decide +kernel
theorem dX8_limitOf_24 : decode cX8_limitOf 24 = .ok (.iaload, 1) := by decide +kernel
theorem dX8_limitOf_25 : decode cX8_limitOf 25 = .ok (.iload_n 1, 1) := by decide +kernel
theorem dX8_limitOf_26 : decode cX8_limitOf 26 = .ok (.invokestatic 109, 3) := by decide +kernel
theorem dX8_limitOf_29 : decode cX8_limitOf 29 = .ok (.istore 5, 2) := by decide +kernel
theorem dX8_limitOf_31 : decode cX8_limitOf 31 = .ok (.iload 5, 2) := by decide +kernel
theorem dX8_limitOf_33 : decode cX8_limitOf 33 = .ok (.iload_n 3, 1) := by decide +kernel
theorem dX8_limitOf_34 : decode cX8_limitOf 34 = .ok (.if_icmp .ge 6, 3) := by decide +kernel
theorem dX8_limitOf_37 : decode cX8_limitOf 37 = .ok (.iload 5, 2) := by decide +kernel
theorem dX8_limitOf_39 : decode cX8_limitOf 39 = .ok (.istore_n 3, 1) := by decide +kernel
theorem dX8_limitOf_40 : decode cX8_limitOf 40 = .ok (.iinc 4 1, 3) := by decide +kernel
theorem dX8_limitOf_43 : decode cX8_limitOf 43 = .ok (.goto (-36), 3) := by decide +kernel
theorem dX8_limitOf_46 : decode cX8_limitOf 46 = .ok (.aload_n 0, 1) := by decide +kernel
theorem dX8_limitOf_47 : decode cX8_limitOf 47 = .ok (.bipush 17, 2) := by decide +kernel
theorem dX8_limitOf_49 : decode cX8_limitOf 49 = .ok (.iaload, 1) := by decide +kernel
theorem dX8_limitOf_50 : decode cX8_limitOf 50 = .ok (.ifCond .eq 20, 3) := by decide +kernel
theorem dX8_limitOf_53 : decode cX8_limitOf 53 = .ok (.aload_n 0, 1) := by decide +kernel
theorem dX8_limitOf_54 : decode cX8_limitOf 54 = .ok (.bipush 17, 2) := by decide +kernel
theorem dX8_limitOf_56 : decode cX8_limitOf 56 = .ok (.iaload, 1) := by decide +kernel
theorem dX8_limitOf_57 : decode cX8_limitOf 57 = .ok (.iload_n 1, 1) := by decide +kernel
theorem dX8_limitOf_58 : decode cX8_limitOf 58 = .ok (.ishr, 1) := by decide +kernel
theorem dX8_limitOf_59 : decode cX8_limitOf 59 = .ok (.iload_n 3, 1) := by decide +kernel
theorem dX8_limitOf_60 : decode cX8_limitOf 60 = .ok (.if_icmp .ge 10, 3) := by decide +kernel
theorem dX8_limitOf_63 : decode cX8_limitOf 63 = .ok (.aload_n 0, 1) := by decide +kernel
theorem dX8_limitOf_64 : decode cX8_limitOf 64 = .ok (.bipush 17, 2) := by decide +kernel
theorem dX8_limitOf_66 : decode cX8_limitOf 66 = .ok (.iaload, 1) := by decide +kernel
theorem dX8_limitOf_67 : decode cX8_limitOf 67 = .ok (.iload_n 1, 1) := by decide +kernel
theorem dX8_limitOf_68 : decode cX8_limitOf 68 = .ok (.ishr, 1) := by decide +kernel
theorem dX8_limitOf_69 : decode cX8_limitOf 69 = .ok (.istore_n 3, 1) := by decide +kernel
theorem dX8_limitOf_70 : decode cX8_limitOf 70 = .ok (.iload_n 2, 1) := by decide +kernel
theorem dX8_limitOf_71 : decode cX8_limitOf 71 = .ok (.ifCond .eq 9, 3) := by decide +kernel
theorem dX8_limitOf_74 : decode cX8_limitOf 74 = .ok (.iload_n 3, 1) := by decide +kernel
theorem dX8_limitOf_75 : decode cX8_limitOf 75 = .ok (.ifCond .le 5, 3) := by decide +kernel
theorem dX8_limitOf_78 : decode cX8_limitOf 78 = .ok (.iconst 0, 1) := by decide +kernel
theorem dX8_limitOf_79 : decode cX8_limitOf 79 = .ok (.istore_n 3, 1) := by decide +kernel
theorem dX8_limitOf_80 : decode cX8_limitOf 80 = .ok (.iload_n 3, 1) := by decide +kernel
theorem dX8_limitOf_81 : decode cX8_limitOf 81 = .ok (.ireturn, 1) := by decide +kernel
theorem dX8_isLess_0 : decode cX8_isLess 0 = .ok (.aload_n 1, 1) := by decide +kernel
theorem dX8_isLess_1 : decode cX8_isLess 1 = .ok (.iload_n 2, 1) := by decide +kernel
theorem dX8_isLess_2 : decode cX8_isLess 2 = .ok (.aload_n 0, 1) := by decide +kernel
theorem dX8_isLess_3 : decode cX8_isLess 3 = .ok (.getfield 113, 3) := by decide +kernel
theorem dX8_isLess_6 : decode cX8_isLess 6 = .ok (.invokestatic 109, 3) := by decide +kernel
theorem dX8_isLess_9 : decode cX8_isLess 9 = .ok (.aload_n 1, 1) := by decide +kernel
theorem dX8_isLess_10 : decode cX8_isLess 10 = .ok (.iload_n 3, 1) := by decide +kernel
theorem dX8_isLess_11 : decode cX8_isLess 11 = .ok (.aload_n 0, 1) := by decide +kernel
theorem dX8_isLess_12 : decode cX8_isLess 12 = .ok (.getfield 113, 3) := by decide +kernel
theorem dX8_isLess_15 : decode cX8_isLess 15 = .ok (.invokestatic 109, 3) := by decide +kernel
theorem dX8_isLess_18 : decode cX8_isLess 18 = .ok (.isub, 1) := by decide +kernel
theorem dX8_isLess_19 : decode cX8_isLess 19 = .ok (.istore 4, 2) := by decide +kernel
theorem dX8_isLess_21 : decode cX8_isLess 21 = .ok (.iload 4, 2) := by decide +kernel
theorem dX8_isLess_23 : decode cX8_isLess 23 = .ok (.ifCond .eq 14, 3) := by decide +kernel
theorem dX8_isLess_26 : decode cX8_isLess 26 = .ok (.iload 4, 2) := by decide +kernel
theorem dX8_isLess_28 : decode cX8_isLess 28 = .ok (.ifCond .ge 7, 3) := by decide +kernel
theorem dX8_isLess_31 : decode cX8_isLess 31 = .ok (.iconst 1, 1) := by decide +kernel
theorem dX8_isLess_32 : decode cX8_isLess 32 = .ok (.goto 4, 3) := by decide +kernel
theorem dX8_isLess_35 : decode cX8_isLess 35 = .ok (.iconst 0, 1) := by decide +kernel
theorem dX8_isLess_36 : decode cX8_isLess 36 = .ok (.ireturn, 1) := by decide +kernel
theorem dX8_isLess_37 : decode cX8_isLess 37 = .ok (.aload_n 1, 1) := by decide +kernel
theorem dX8_isLess_38 : decode cX8_isLess 38 = .ok (.iload_n 2, 1) := by decide +kernel
theorem dX8_isLess_39 : decode cX8_isLess 39 = .ok (.aload_n 0, 1) := by decide +kernel
theorem dX8_isLess_40 : decode cX8_isLess 40 = .ok (.getfield 113, 3) := by decide +kernel
theorem dX8_isLess_43 : decode cX8_isLess 43 = .ok (.invokestatic 116, 3) := by decide +kernel
theorem dX8_isLess_46 : decode cX8_isLess 46 = .ok (.aload_n 1, 1) := by decide +kernel
theorem dX8_isLess_47 : decode cX8_isLess 47 = .ok (.iload_n 3, 1) := by decide +kernel
theorem dX8_isLess_48 : decode cX8_isLess 48 = .ok (.aload_n 0, 1) := by decide +kernel
theorem dX8_isLess_49 : decode cX8_isLess 49 = .ok (.getfield 113, 3) := by decide +kernel
theorem dX8_isLess_52 : decode cX8_isLess 52 = .ok (.invokestatic 116, 3) := by decide +kernel
theorem dX8_isLess_55 : decode cX8_isLess 55 = .ok (.isub, 1) := by decide +kernel
theorem dX8_isLess_56 : decode cX8_isLess 56 = .ok (.istore 5, 2) := by decide +kernel
theorem dX8_isLess_58 : decode cX8_isLess 58 = .ok (.iload 5, 2) := by decide +kernel
theorem dX8_isLess_60 : decode cX8_isLess 60 = .ok (.ifCond .eq 16, 3) := by decide +kernel
theorem dX8_isLess_63 : decode cX8_isLess 63 = .ok (.iload 5, 2) := by decide +kernel
theorem dX8_isLess_65 : decode cX8_isLess 65 = .ok (.ifCond .ge 7, 3) := by decide +kernel
theorem dX8_isLess_68 : decode cX8_isLess 68 = .ok (.iconst 1, 1) := by decide +kernel
theorem dX8_isLess_69 : decode cX8_isLess 69 = .ok (.goto 17, 3) := by decide +kernel
theorem dX8_isLess_72 : decode cX8_isLess 72 = .ok (.iconst 0, 1) := by decide +kernel
theorem dX8_isLess_73 : decode cX8_isLess 73 = .ok (.goto 13, 3) := by decide +kernel
theorem dX8_isLess_76 : decode cX8_isLess 76 = .ok (.iload_n 2, 1) := by decide +kernel
theorem dX8_isLess_77 : decode cX8_isLess 77 = .ok (.iload_n 3, 1) := by decide +kernel
theorem dX8_isLess_78 : decode cX8_isLess 78 = .ok (.if_icmp .ge 7, 3) := by decide +kernel
theorem dX8_isLess_81 : decode cX8_isLess 81 = .ok (.iconst 1, 1) := by decide +kernel
theorem dX8_isLess_82 : decode cX8_isLess 82 = .ok (.goto 4, 3) := by decide +kernel
theorem dX8_isLess_85 : decode cX8_isLess 85 = .ok (.iconst 0, 1) := by decide +kernel
theorem dX8_isLess_86 : decode cX8_isLess 86 = .ok (.ireturn, 1) := by decide +kernel
theorem dX8_nextOf_0 : decode cX8_nextOf 0 = .ok (.aload_n 1, 1) := by decide +kernel
theorem dX8_nextOf_1 : decode cX8_nextOf 1 = .ok (.aload_n 0, 1) := by decide +kernel
theorem dX8_nextOf_2 : decode cX8_nextOf 2 = .ok (.getfield 113, 3) := by decide +kernel
theorem dX8_nextOf_5 : decode cX8_nextOf 5 = .ok (.iload_n 2, 1) := by decide +kernel
theorem dX8_nextOf_6 : decode cX8_nextOf 6 = .ok (.invokestatic 119, 3) := by decide +kernel
theorem dX8_nextOf_9 : decode cX8_nextOf 9 = .ok (.istore_n 3, 1) := by decide +kernel
theorem dX8_nextOf_10 : decode cX8_nextOf 10 = .ok (.iconst (-1), 1) := by decide +kernel
theorem dX8_nextOf_11 : decode cX8_nextOf 11 = .ok (.istore 4, 2) := by decide +kernel
theorem dX8_nextOf_13 : decode cX8_nextOf 13 = .ok (.iconst 0, 1) := by decide +kernel
theorem dX8_nextOf_14 : decode cX8_nextOf 14 = .ok (.istore 5, 2) := by decide +kernel
theorem dX8_nextOf_16 : decode cX8_nextOf 16 = .ok (.iload 5, 2) := by decide +kernel
theorem dX8_nextOf_18 : decode cX8_nextOf 18 = .ok (.bipush 21, 2) := by decide +kernel
theorem dX8_nextOf_20 : decode cX8_nextOf 20 = .ok (.if_icmp .ge 65, 3) := by decide +kernel
theorem dX8_nextOf_23 : decode cX8_nextOf 23 = .ok (.aload_n 1, 1) := by decide +kernel
theorem dX8_nextOf_24 : decode cX8_nextOf 24 = .ok (.sipush 194, 3) := by decide +kernel
theorem dX8_nextOf_27 : decode cX8_nextOf 27 = .ok (.iload 5, 2) := by decide +kernel
theorem dX8_nextOf_29 : decode cX8_nextOf 29 = .ok (.iadd, 1) := by decide +kernel
theorem dX8_nextOf_30 : decode cX8_nextOf 30 = .ok (.iaload, 1) := by decide +kernel
theorem dX8_nextOf_31 : decode cX8_nextOf 31 = .ok (.ifCond .lt 48, 3) := by decide +kernel
theorem dX8_nextOf_34 : decode cX8_nextOf 34 = .ok (.aload_n 0, 1) := by decide +kernel
theorem dX8_nextOf_35 : decode cX8_nextOf 35 = .ok (.getfield 16, 3) := by decide +kernel
theorem dX8_nextOf_38 : decode cX8_nextOf 38 = .ok (.iload 5, 2) := by decide +kernel
theorem dX8_nextOf_40 : decode cX8_nextOf 40 = .ok (.baload, 1) := by decide +kernel
theorem dX8_nextOf_41 : decode cX8_nextOf 41 = .ok (.ifCond .eq 38, 3) := by decide +kernel
theorem dX8_nextOf_44 : decode cX8_nextOf 44 = .ok (.aload_n 1, 1) := by decide +kernel
theorem dX8_nextOf_45 : decode cX8_nextOf 45 = .ok (.iload 5, 2) := by decide +kernel
theorem dX8_nextOf_47 : decode cX8_nextOf 47 = .ok (.aload_n 0, 1) := by decide +kernel
theorem dX8_nextOf_48 : decode cX8_nextOf 48 = .ok (.getfield 113, 3) := by decide +kernel
theorem dX8_nextOf_51 : decode cX8_nextOf 51 = .ok (.invokestatic 109, 3) := by decide +kernel
theorem dX8_nextOf_54 : decode cX8_nextOf 54 = .ok (.iload_n 3, 1) := by decide +kernel
theorem dX8_nextOf_55 : decode cX8_nextOf 55 = .ok (.if_icmp .ge 24, 3) := by decide +kernel
theorem dX8_nextOf_58 : decode cX8_nextOf 58 = .ok (.iload 4, 2) := by decide +kernel
theorem dX8_nextOf_60 : decode cX8_nextOf 60 = .ok (.ifCond .lt 15, 3) := by decide +kernel
theorem dX8_nextOf_63 : decode cX8_nextOf 63 = .ok (.aload_n 0, 1) := by decide +kernel
theorem dX8_nextOf_64 : decode cX8_nextOf 64 = .ok (.aload_n 1, 1) := by decide +kernel
theorem dX8_nextOf_65 : decode cX8_nextOf 65 = .ok (.iload 5, 2) := by decide +kernel
theorem dX8_nextOf_67 : decode cX8_nextOf 67 = .ok (.iload 4, 2) := by decide +kernel
theorem dX8_nextOf_69 : decode cX8_nextOf 69 = .ok (.invokevirtual 123, 3) := by decide +kernel
theorem dX8_nextOf_72 : decode cX8_nextOf 72 = .ok (.ifCond .eq 7, 3) := by decide +kernel
theorem dX8_nextOf_75 : decode cX8_nextOf 75 = .ok (.iload 5, 2) := by decide +kernel
theorem dX8_nextOf_77 : decode cX8_nextOf 77 = .ok (.istore 4, 2) := by decide +kernel
theorem dX8_nextOf_79 : decode cX8_nextOf 79 = .ok (.iinc 5 1, 3) := by decide +kernel
theorem dX8_nextOf_82 : decode cX8_nextOf 82 = .ok (.goto (-66), 3) := by decide +kernel
theorem dX8_nextOf_85 : decode cX8_nextOf 85 = .ok (.iload 4, 2) := by decide +kernel
theorem dX8_nextOf_87 : decode cX8_nextOf 87 = .ok (.ireturn, 1) := by decide +kernel
theorem dX8_nextOf__0 : decode cX8_nextOf_ 0 = .ok (.aload_n 0, 1) := by decide +kernel
theorem dX8_nextOf__1 : decode cX8_nextOf_ 1 = .ok (.aload_n 1, 1) := by decide +kernel
theorem dX8_nextOf__2 : decode cX8_nextOf_ 2 = .ok (.aload_n 1, 1) := by decide +kernel
theorem dX8_nextOf__3 : decode cX8_nextOf_ 3 = .ok (.bipush 16, 2) := by decide +kernel
theorem dX8_nextOf__5 : decode cX8_nextOf_ 5 = .ok (.iaload, 1) := by decide +kernel
theorem dX8_nextOf__6 : decode cX8_nextOf_ 6 = .ok (.iconst 1, 1) := by decide +kernel
theorem dX8_nextOf__7 : decode cX8_nextOf_ 7 = .ok (.if_icmp .ne 7, 3) := by decide +kernel
theorem dX8_nextOf__10 : decode cX8_nextOf_ 10 = .ok (.iconst 1, 1) := by decide +kernel
theorem dX8_nextOf__11 : decode cX8_nextOf_ 11 = .ok (.goto 4, 3) := by decide +kernel
theorem dX8_nextOf__14 : decode cX8_nextOf_ 14 = .ok (.iconst 0, 1) := by decide +kernel
theorem dX8_nextOf__15 : decode cX8_nextOf_ 15 = .ok (.invokevirtual 127, 3) := by decide +kernel
theorem dX8_nextOf__18 : decode cX8_nextOf_ 18 = .ok (.ireturn, 1) := by decide +kernel
theorem dX8_could_0 : decode cX8_could 0 = .ok (.aload_n 0, 1) := by decide +kernel
theorem dX8_could_1 : decode cX8_could 1 = .ok (.getfield 16, 3) := by decide +kernel
theorem dX8_could_4 : decode cX8_could 4 = .ok (.iload_n 2, 1) := by decide +kernel
theorem dX8_could_5 : decode cX8_could 5 = .ok (.baload, 1) := by decide +kernel
theorem dX8_could_6 : decode cX8_could 6 = .ok (.ifCond .eq 40, 3) := by decide +kernel
theorem dX8_could_9 : decode cX8_could 9 = .ok (.aload_n 1, 1) := by decide +kernel
theorem dX8_could_10 : decode cX8_could 10 = .ok (.iload_n 2, 1) := by decide +kernel
theorem dX8_could_11 : decode cX8_could 11 = .ok (.aload_n 0, 1) := by decide +kernel
theorem dX8_could_12 : decode cX8_could 12 = .ok (.getfield 113, 3) := by decide +kernel
theorem dX8_could_15 : decode cX8_could 15 = .ok (.invokestatic 109, 3) := by decide +kernel
theorem dX8_could_18 : decode cX8_could 18 = .ok (.aload_n 1, 1) := by decide +kernel
theorem dX8_could_19 : decode cX8_could 19 = .ok (.aload_n 0, 1) := by decide +kernel
theorem dX8_could_20 : decode cX8_could 20 = .ok (.getfield 113, 3) := by decide +kernel
theorem dX8_could_23 : decode cX8_could 23 = .ok (.aload_n 1, 1) := by decide +kernel
theorem dX8_could_24 : decode cX8_could 24 = .ok (.bipush 16, 2) := by decide +kernel
theorem dX8_could_26 : decode cX8_could 26 = .ok (.iaload, 1) := by decide +kernel
theorem dX8_could_27 : decode cX8_could 27 = .ok (.iconst 1, 1) := by decide +kernel
theorem dX8_could_28 : decode cX8_could 28 = .ok (.if_icmp .ne 7, 3) := by decide +kernel
theorem dX8_could_31 : decode cX8_could 31 = .ok (.iconst 1, 1) := by decide +kernel
theorem dX8_could_32 : decode cX8_could 32 = .ok (.goto 4, 3) := by decide +kernel
theorem dX8_could_35 : decode cX8_could 35 = .ok (.iconst 0, 1) := by decide +kernel
theorem dX8_could_36 : decode cX8_could 36 = .ok (.invokestatic 119, 3) := by decide +kernel
theorem dX8_could_39 : decode cX8_could 39 = .ok (.if_icmp .ge 7, 3) := by decide +kernel
theorem dX8_could_42 : decode cX8_could 42 = .ok (.iconst 1, 1) := by decide +kernel
theorem dX8_could_43 : decode cX8_could 43 = .ok (.goto 4, 3) := by decide +kernel
theorem dX8_could_46 : decode cX8_could 46 = .ok (.iconst 0, 1) := by decide +kernel
theorem dX8_could_47 : decode cX8_could 47 = .ok (.ireturn, 1) := by decide +kernel
theorem dX8_pends_0 : decode cX8_pends 0 = .ok (.aload_n 1, 1) := by decide +kernel
theorem dX8_pends_1 : decode cX8_pends 1 = .ok (.sipush 194, 3) := by decide +kernel
theorem dX8_pends_4 : decode cX8_pends 4 = .ok (.iload_n 2, 1) := by decide +kernel
theorem dX8_pends_5 : decode cX8_pends 5 = .ok (.iadd, 1) := by decide +kernel
theorem dX8_pends_6 : decode cX8_pends 6 = .ok (.iaload, 1) := by decide +kernel
theorem dX8_pends_7 : decode cX8_pends 7 = .ok (.ifCond .lt 12, 3) := by decide +kernel
theorem dX8_pends_10 : decode cX8_pends 10 = .ok (.aload_n 0, 1) := by decide +kernel
theorem dX8_pends_11 : decode cX8_pends 11 = .ok (.bipush 9, 2) := by decide +kernel
theorem dX8_pends_13 : decode cX8_pends 13 = .ok (.invokevirtual 131, 3) := by decide +kernel
theorem dX8_pends_16 : decode cX8_pends 16 = .ok (.goto 14, 3) := by decide +kernel
theorem dX8_pends_19 : decode cX8_pends 19 = .ok (.aload_n 1, 1) := by decide +kernel
theorem dX8_pends_20 : decode cX8_pends 20 = .ok (.sipush 194, 3) := by decide +kernel
theorem dX8_pends_23 : decode cX8_pends 23 = .ok (.iload_n 2, 1) := by decide +kernel
theorem dX8_pends_24 : decode cX8_pends 24 = .ok (.iadd, 1) := by decide +kernel
theorem dX8_pends_25 : decode cX8_pends 25 = .ok (.aload_n 1, 1) := by decide +kernel
theorem dX8_pends_26 : decode cX8_pends 26 = .ok (.bipush 25, 2) := by decide +kernel
theorem dX8_pends_28 : decode cX8_pends 28 = .ok (.iaload, 1) := by decide +kernel
theorem dX8_pends_29 : decode cX8_pends 29 = .ok (.iastore, 1) := by decide +kernel
theorem dX8_pends_30 : decode cX8_pends 30 = .ok (.return_, 1) := by decide +kernel
theorem dX8_targetOf_0 : decode cX8_targetOf 0 = .ok (.aload_n 0, 1) := by decide +kernel
theorem dX8_targetOf_1 : decode cX8_targetOf 1 = .ok (.aload_n 1, 1) := by decide +kernel
theorem dX8_targetOf_2 : decode cX8_targetOf 2 = .ok (.iload_n 2, 1) := by decide +kernel
theorem dX8_targetOf_3 : decode cX8_targetOf 3 = .ok (.invokevirtual 135, 3) := by decide +kernel
theorem dX8_targetOf_6 : decode cX8_targetOf 6 = .ok (.ifCond .eq 7, 3) := by decide +kernel
theorem dX8_targetOf_9 : decode cX8_targetOf 9 = .ok (.iload_n 2, 1) := by decide +kernel
theorem dX8_targetOf_10 : decode cX8_targetOf 10 = .ok (.goto 17, 3) := by decide +kernel
theorem dX8_targetOf_13 : decode cX8_targetOf 13 = .ok (.aload_n 1, 1) := by decide +kernel
theorem dX8_targetOf_14 : decode cX8_targetOf 14 = .ok (.sipush 320, 3) := by decide +kernel
theorem dX8_targetOf_17 : decode cX8_targetOf 17 = .ok (.iaload, 1) := by decide +kernel
theorem dX8_targetOf_18 : decode cX8_targetOf 18 = .ok (.ifCond .ne 8, 3) := by decide +kernel
theorem dX8_targetOf_21 : decode cX8_targetOf 21 = .ok (.bipush 20, 2) := by decide +kernel
theorem dX8_targetOf_23 : decode cX8_targetOf 23 = .ok (.goto 4, 3) := by decide +kernel
theorem dX8_targetOf_26 : decode cX8_targetOf 26 = .ok (.iconst (-1), 1) := by decide +kernel
theorem dX8_targetOf_27 : decode cX8_targetOf 27 = .ok (.ireturn, 1) := by decide +kernel
theorem dX8_raises_0 : decode cX8_raises 0 = .ok (.aload_n 0, 1) := by decide +kernel
theorem dX8_raises_1 : decode cX8_raises 1 = .ok (.aload_n 1, 1) := by decide +kernel
theorem dX8_raises_2 : decode cX8_raises 2 = .ok (.iload_n 2, 1) := by decide +kernel
theorem dX8_raises_3 : decode cX8_raises 3 = .ok (.invokevirtual 139, 3) := by decide +kernel
theorem dX8_raises_6 : decode cX8_raises 6 = .ok (.istore_n 3, 1) := by decide +kernel
theorem dX8_raises_7 : decode cX8_raises 7 = .ok (.aload_n 0, 1) := by decide +kernel
theorem dX8_raises_8 : decode cX8_raises 8 = .ok (.bipush 7, 2) := by decide +kernel
theorem dX8_raises_10 : decode cX8_raises 10 = .ok (.invokevirtual 131, 3) := by decide +kernel
theorem dX8_raises_13 : decode cX8_raises 13 = .ok (.iload_n 3, 1) := by decide +kernel
theorem dX8_raises_14 : decode cX8_raises 14 = .ok (.bipush 20, 2) := by decide +kernel
theorem dX8_raises_16 : decode cX8_raises 16 = .ok (.if_icmp .ne 9, 3) := by decide +kernel
theorem dX8_raises_19 : decode cX8_raises 19 = .ok (.aload_n 0, 1) := by decide +kernel
theorem dX8_raises_20 : decode cX8_raises 20 = .ok (.bipush 8, 2) := by decide +kernel
theorem dX8_raises_22 : decode cX8_raises 22 = .ok (.invokevirtual 131, 3) := by decide +kernel
theorem dX8_raises_25 : decode cX8_raises 25 = .ok (.iload_n 3, 1) := by decide +kernel
theorem dX8_raises_26 : decode cX8_raises 26 = .ok (.ifCond .lt 12, 3) := by decide +kernel
theorem dX8_raises_29 : decode cX8_raises 29 = .ok (.aload_n 0, 1) := by decide +kernel
theorem dX8_raises_30 : decode cX8_raises 30 = .ok (.aload_n 1, 1) := by decide +kernel
theorem dX8_raises_31 : decode cX8_raises 31 = .ok (.iload_n 3, 1) := by decide +kernel
theorem dX8_raises_32 : decode cX8_raises 32 = .ok (.invokevirtual 143, 3) := by decide +kernel
theorem dX8_raises_35 : decode cX8_raises 35 = .ok (.goto 13, 3) := by decide +kernel
theorem dX8_raises_38 : decode cX8_raises 38 = .ok (.aload_n 1, 1) := by decide +kernel
theorem dX8_raises_39 : decode cX8_raises 39 = .ok (.bipush 20, 2) := by decide +kernel
theorem dX8_raises_41 : decode cX8_raises 41 = .ok (.iconst 5, 1) := by decide +kernel
theorem dX8_raises_42 : decode cX8_raises 42 = .ok (.iastore, 1) := by decide +kernel
theorem dX8_raises_43 : decode cX8_raises 43 = .ok (.aload_n 1, 1) := by decide +kernel
theorem dX8_raises_44 : decode cX8_raises 44 = .ok (.bipush 21, 2) := by decide +kernel
theorem dX8_raises_46 : decode cX8_raises 46 = .ok (.iconst 0, 1) := by decide +kernel
theorem dX8_raises_47 : decode cX8_raises 47 = .ok (.iastore, 1) := by decide +kernel
theorem dX8_raises_48 : decode cX8_raises 48 = .ok (.aload_n 0, 1) := by decide +kernel
theorem dX8_raises_49 : decode cX8_raises 49 = .ok (.iconst 3, 1) := by decide +kernel
theorem dX8_raises_50 : decode cX8_raises 50 = .ok (.iload_n 3, 1) := by decide +kernel
theorem dX8_raises_51 : decode cX8_raises 51 = .ok (.aload_n 1, 1) := by decide +kernel
theorem dX8_raises_52 : decode cX8_raises 52 = .ok (.bipush 12, 2) := by decide +kernel
theorem dX8_raises_54 : decode cX8_raises 54 = .ok (.iaload, 1) := by decide +kernel
theorem dX8_raises_55 : decode cX8_raises 55 = .ok (.invokevirtual 147, 3) := by decide +kernel
theorem dX8_raises_58 : decode cX8_raises 58 = .ok (.iload_n 3, 1) := by decide +kernel
theorem dX8_raises_59 : decode cX8_raises 59 = .ok (.ifCond .ge 7, 3) := by decide +kernel
theorem dX8_raises_62 : decode cX8_raises 62 = .ok (.iconst 1, 1) := by decide +kernel
theorem dX8_raises_63 : decode cX8_raises 63 = .ok (.goto 4, 3) := by decide +kernel
theorem dX8_raises_66 : decode cX8_raises 66 = .ok (.iconst 0, 1) := by decide +kernel
theorem dX8_raises_67 : decode cX8_raises 67 = .ok (.ireturn, 1) := by decide +kernel
theorem dX8_cycle_0 : decode cX8_cycle 0 = .ok (.aload_n 0, 1) := by decide +kernel
theorem dX8_cycle_1 : decode cX8_cycle 1 = .ok (.iconst (-1), 1) := by decide +kernel
theorem dX8_cycle_2 : decode cX8_cycle 2 = .ok (.putfield 151, 3) := by decide +kernel
theorem dX8_cycle_5 : decode cX8_cycle 5 = .ok (.aload_n 1, 1) := by decide +kernel
theorem dX8_cycle_6 : decode cX8_cycle 6 = .ok (.bipush 25, 2) := by decide +kernel
theorem dX8_cycle_8 : decode cX8_cycle 8 = .ok (.dup2, 1) := by decide +kernel
theorem dX8_cycle_9 : decode cX8_cycle 9 = .ok (.iaload, 1) := by decide +kernel
theorem dX8_cycle_10 : decode cX8_cycle 10 = .ok (.iconst 1, 1) := by decide +kernel
theorem dX8_cycle_11 : decode cX8_cycle 11 = .ok (.iadd, 1) := by decide +kernel
theorem dX8_cycle_12 : decode cX8_cycle 12 = .ok (.iastore, 1) := by decide +kernel
theorem dX8_cycle_13 : decode cX8_cycle 13 = .ok (.iconst 0, 1) := by decide +kernel
theorem dX8_cycle_14 : decode cX8_cycle 14 = .ok (.istore_n 2, 1) := by decide +kernel
theorem dX8_cycle_15 : decode cX8_cycle 15 = .ok (.iconst 0, 1) := by decide +kernel
theorem dX8_cycle_16 : decode cX8_cycle 16 = .ok (.istore_n 3, 1) := by decide +kernel
theorem dX8_cycle_17 : decode cX8_cycle 17 = .ok (.iload_n 3, 1) := by decide +kernel
theorem dX8_cycle_18 : decode cX8_cycle 18 = .ok (.aload_n 1, 1) := by decide +kernel
theorem dX8_cycle_19 : decode cX8_cycle 19 = .ok (.bipush 31, 2) := by decide +kernel
theorem dX8_cycle_21 : decode cX8_cycle 21 = .ok (.iaload, 1) := by decide +kernel
theorem dX8_cycle_22 : decode cX8_cycle 22 = .ok (.if_icmp .ge 69, 3) := by decide +kernel
theorem dX8_cycle_25 : decode cX8_cycle 25 = .ok (.aload_n 1, 1) := by decide +kernel
theorem dX8_cycle_26 : decode cX8_cycle 26 = .ok (.sipush 268, 3) := by decide +kernel
theorem dX8_cycle_29 : decode cX8_cycle 29 = .ok (.iload_n 3, 1) := by decide +kernel
theorem dX8_cycle_30 : decode cX8_cycle 30 = .ok (.iadd, 1) := by decide +kernel
theorem dX8_cycle_31 : decode cX8_cycle 31 = .ok (.iaload, 1) := by decide +kernel
theorem dX8_cycle_32 : decode cX8_cycle 32 = .ok (.aload_n 1, 1) := by decide +kernel
theorem dX8_cycle_33 : decode cX8_cycle 33 = .ok (.bipush 25, 2) := by decide +kernel
theorem dX8_cycle_35 : decode cX8_cycle 35 = .ok (.iaload, 1) := by decide +kernel
theorem dX8_cycle_36 : decode cX8_cycle 36 = .ok (.if_icmp .ne 18, 3) := by decide +kernel
theorem dX8_cycle_39 : decode cX8_cycle 39 = .ok (.aload_n 0, 1) := by decide +kernel
theorem dX8_cycle_40 : decode cX8_cycle 40 = .ok (.aload_n 1, 1) := by decide +kernel
theorem dX8_cycle_41 : decode cX8_cycle 41 = .ok (.aload_n 1, 1) := by decide +kernel
theorem dX8_cycle_42 : decode cX8_cycle 42 = .ok (.sipush 236, 3) := by decide +kernel
theorem dX8_cycle_45 : decode cX8_cycle 45 = .ok (.iload_n 3, 1) := by decide +kernel
theorem dX8_cycle_46 : decode cX8_cycle 46 = .ok (.iadd, 1) := by decide +kernel
theorem dX8_cycle_47 : decode cX8_cycle 47 = .ok (.iaload, 1) := by decide +kernel
theorem dX8_cycle_48 : decode cX8_cycle 48 = .ok (.invokevirtual 143, 3) := by decide +kernel
theorem dX8_cycle_51 : decode cX8_cycle 51 = .ok (.goto 34, 3) := by decide +kernel
theorem dX8_cycle_54 : decode cX8_cycle 54 = .ok (.aload_n 1, 1) := by decide +kernel
theorem dX8_cycle_55 : decode cX8_cycle 55 = .ok (.sipush 236, 3) := by decide +kernel
theorem dX8_cycle_58 : decode cX8_cycle 58 = .ok (.iload_n 2, 1) := by decide +kernel
theorem dX8_cycle_59 : decode cX8_cycle 59 = .ok (.iadd, 1) := by decide +kernel
theorem dX8_cycle_60 : decode cX8_cycle 60 = .ok (.aload_n 1, 1) := by decide +kernel
theorem dX8_cycle_61 : decode cX8_cycle 61 = .ok (.sipush 236, 3) := by decide +kernel
theorem dX8_cycle_64 : decode cX8_cycle 64 = .ok (.iload_n 3, 1) := by decide +kernel
theorem dX8_cycle_65 : decode cX8_cycle 65 = .ok (.iadd, 1) := by decide +kernel
theorem dX8_cycle_66 : decode cX8_cycle 66 = .ok (.iaload, 1) := by decide +kernel
theorem dX8_cycle_67 : decode cX8_cycle 67 = .ok (.iastore, 1) := by decide +kernel
theorem dX8_cycle_68 : decode cX8_cycle 68 = .ok (.aload_n 1, 1) := by decide +kernel
theorem dX8_cycle_69 : decode cX8_cycle 69 = .ok (.sipush 268, 3) := by decide +kernel
theorem dX8_cycle_72 : decode cX8_cycle 72 = .ok (.iload_n 2, 1) := by decide +kernel
theorem dX8_cycle_73 : decode cX8_cycle 73 = .ok (.iadd, 1) := by decide +kernel
theorem dX8_cycle_74 : decode cX8_cycle 74 = .ok (.aload_n 1, 1) := by decide +kernel
theorem dX8_cycle_75 : decode cX8_cycle 75 = .ok (.sipush 268, 3) := by decide +kernel
theorem dX8_cycle_78 : decode cX8_cycle 78 = .ok (.iload_n 3, 1) := by decide +kernel
theorem dX8_cycle_79 : decode cX8_cycle 79 = .ok (.iadd, 1) := by decide +kernel
theorem dX8_cycle_80 : decode cX8_cycle 80 = .ok (.iaload, 1) := by decide +kernel
theorem dX8_cycle_81 : decode cX8_cycle 81 = .ok (.iastore, 1) := by decide +kernel
theorem dX8_cycle_82 : decode cX8_cycle 82 = .ok (.iinc 2 1, 3) := by decide +kernel
theorem dX8_cycle_85 : decode cX8_cycle 85 = .ok (.iinc 3 1, 3) := by decide +kernel
theorem dX8_cycle_88 : decode cX8_cycle 88 = .ok (.goto (-71), 3) := by decide +kernel
theorem dX8_cycle_91 : decode cX8_cycle 91 = .ok (.aload_n 1, 1) := by decide +kernel
theorem dX8_cycle_92 : decode cX8_cycle 92 = .ok (.bipush 31, 2) := by decide +kernel
theorem dX8_cycle_94 : decode cX8_cycle 94 = .ok (.iload_n 2, 1) := by decide +kernel
theorem dX8_cycle_95 : decode cX8_cycle 95 = .ok (.iastore, 1) := by decide +kernel
theorem dX8_cycle_96 : decode cX8_cycle 96 = .ok (.aload_n 1, 1) := by decide +kernel
theorem dX8_cycle_97 : decode cX8_cycle 97 = .ok (.bipush 26, 2) := by decide +kernel
theorem dX8_cycle_99 : decode cX8_cycle 99 = .ok (.iaload, 1) := by decide +kernel
theorem dX8_cycle_100 : decode cX8_cycle 100 = .ok (.ifCond .eq 33, 3) := by decide +kernel
theorem dX8_cycle_103 : decode cX8_cycle 103 = .ok (.aload_n 1, 1) := by decide +kernel
theorem dX8_cycle_104 : decode cX8_cycle 104 = .ok (.bipush 27, 2) := by decide +kernel
theorem dX8_cycle_106 : decode cX8_cycle 106 = .ok (.dup2, 1) := by decide +kernel
theorem dX8_cycle_107 : decode cX8_cycle 107 = .ok (.iaload, 1) := by decide +kernel
theorem dX8_cycle_108 : decode cX8_cycle 108 = .ok (.iconst 1, 1) := by decide +kernel
theorem dX8_cycle_109 : decode cX8_cycle 109 = .ok (.isub, 1) := by decide +kernel
theorem dX8_cycle_110 : decode cX8_cycle 110 = .ok (.iastore, 1) := by decide +kernel
theorem dX8_cycle_111 : decode cX8_cycle 111 = .ok (.aload_n 1, 1) := by decide +kernel
theorem dX8_cycle_112 : decode cX8_cycle 112 = .ok (.bipush 27, 2) := by decide +kernel
theorem dX8_cycle_114 : decode cX8_cycle 114 = .ok (.iaload, 1) := by decide +kernel
theorem dX8_cycle_115 : decode cX8_cycle 115 = .ok (.ifCond .ne 18, 3) := by decide +kernel
theorem dX8_cycle_118 : decode cX8_cycle 118 = .ok (.aload_n 0, 1) := by decide +kernel
theorem dX8_cycle_119 : decode cX8_cycle 119 = .ok (.aload_n 1, 1) := by decide +kernel
theorem dX8_cycle_120 : decode cX8_cycle 120 = .ok (.bipush 16, 2) := by decide +kernel
theorem dX8_cycle_122 : decode cX8_cycle 122 = .ok (.invokevirtual 143, 3) := by decide +kernel
theorem dX8_cycle_125 : decode cX8_cycle 125 = .ok (.aload_n 1, 1) := by decide +kernel
theorem dX8_cycle_126 : decode cX8_cycle 126 = .ok (.bipush 27, 2) := by decide +kernel
theorem dX8_cycle_128 : decode cX8_cycle 128 = .ok (.aload_n 1, 1) := by decide +kernel
theorem dX8_cycle_129 : decode cX8_cycle 129 = .ok (.bipush 26, 2) := by decide +kernel
theorem dX8_cycle_131 : decode cX8_cycle 131 = .ok (.iaload, 1) := by decide +kernel
theorem dX8_cycle_132 : decode cX8_cycle 132 = .ok (.iastore, 1) := by decide +kernel
theorem dX8_cycle_133 : decode cX8_cycle 133 = .ok (.aload_n 1, 1) := by decide +kernel
theorem dX8_cycle_134 : decode cX8_cycle 134 = .ok (.bipush 20, 2) := by decide +kernel
theorem dX8_cycle_136 : decode cX8_cycle 136 = .ok (.iaload, 1) := by decide +kernel
theorem dX8_cycle_137 : decode cX8_cycle 137 = .ok (.ifCond .ne 11, 3) := by decide +kernel
theorem dX8_cycle_140 : decode cX8_cycle 140 = .ok (.aload_n 0, 1) := by decide +kernel
theorem dX8_cycle_141 : decode cX8_cycle 141 = .ok (.aload_n 1, 1) := by decide +kernel
theorem dX8_cycle_142 : decode cX8_cycle 142 = .ok (.invokevirtual 154, 3) := by decide +kernel
theorem dX8_cycle_145 : decode cX8_cycle 145 = .ok (.goto 64, 3) := by decide +kernel
theorem dX8_cycle_148 : decode cX8_cycle 148 = .ok (.aload_n 1, 1) := by decide +kernel
theorem dX8_cycle_149 : decode cX8_cycle 149 = .ok (.bipush 20, 2) := by decide +kernel
theorem dX8_cycle_151 : decode cX8_cycle 151 = .ok (.iaload, 1) := by decide +kernel
theorem dX8_cycle_152 : decode cX8_cycle 152 = .ok (.iconst 1, 1) := by decide +kernel
theorem dX8_cycle_153 : decode cX8_cycle 153 = .ok (.if_icmp .ne 11, 3) := by decide +kernel
theorem dX8_cycle_156 : decode cX8_cycle 156 = .ok (.aload_n 0, 1) := by decide +kernel
theorem dX8_cycle_157 : decode cX8_cycle 157 = .ok (.aload_n 1, 1) := by decide +kernel
theorem dX8_cycle_158 : decode cX8_cycle 158 = .ok (.invokevirtual 158, 3) := by decide +kernel
theorem dX8_cycle_161 : decode cX8_cycle 161 = .ok (.goto 48, 3) := by decide +kernel
theorem dX8_cycle_164 : decode cX8_cycle 164 = .ok (.aload_n 1, 1) := by decide +kernel
theorem dX8_cycle_165 : decode cX8_cycle 165 = .ok (.bipush 20, 2) := by decide +kernel
theorem dX8_cycle_167 : decode cX8_cycle 167 = .ok (.iaload, 1) := by decide +kernel
theorem dX8_cycle_168 : decode cX8_cycle 168 = .ok (.iconst 2, 1) := by decide +kernel
theorem dX8_cycle_169 : decode cX8_cycle 169 = .ok (.if_icmp .ne 11, 3) := by decide +kernel
theorem dX8_cycle_172 : decode cX8_cycle 172 = .ok (.aload_n 0, 1) := by decide +kernel
theorem dX8_cycle_173 : decode cX8_cycle 173 = .ok (.aload_n 1, 1) := by decide +kernel
theorem dX8_cycle_174 : decode cX8_cycle 174 = .ok (.invokevirtual 161, 3) := by decide +kernel
theorem dX8_cycle_177 : decode cX8_cycle 177 = .ok (.goto 32, 3) := by decide +kernel
theorem dX8_cycle_180 : decode cX8_cycle 180 = .ok (.aload_n 1, 1) := by decide +kernel
theorem dX8_cycle_181 : decode cX8_cycle 181 = .ok (.bipush 20, 2) := by decide +kernel
theorem dX8_cycle_183 : decode cX8_cycle 183 = .ok (.iaload, 1) := by decide +kernel
theorem dX8_cycle_184 : decode cX8_cycle 184 = .ok (.iconst 3, 1) := by decide +kernel
theorem dX8_cycle_185 : decode cX8_cycle 185 = .ok (.if_icmp .ne 11, 3) := by decide +kernel
theorem dX8_cycle_188 : decode cX8_cycle 188 = .ok (.aload_n 0, 1) := by decide +kernel
theorem dX8_cycle_189 : decode cX8_cycle 189 = .ok (.aload_n 1, 1) := by decide +kernel
theorem dX8_cycle_190 : decode cX8_cycle 190 = .ok (.invokevirtual 164, 3) := by decide +kernel
theorem dX8_cycle_193 : decode cX8_cycle 193 = .ok (.goto 16, 3) := by decide +kernel
theorem dX8_cycle_196 : decode cX8_cycle 196 = .ok (.aload_n 1, 1) := by decide +kernel
theorem dX8_cycle_197 : decode cX8_cycle 197 = .ok (.bipush 20, 2) := by decide +kernel
theorem dX8_cycle_199 : decode cX8_cycle 199 = .ok (.iaload, 1) := by decide +kernel
theorem dX8_cycle_200 : decode cX8_cycle 200 = .ok (.iconst 4, 1) := by decide +kernel
theorem dX8_cycle_201 : decode cX8_cycle 201 = .ok (.if_icmp .ne 8, 3) := by decide +kernel
theorem dX8_cycle_204 : decode cX8_cycle 204 = .ok (.aload_n 0, 1) := by decide +kernel
theorem dX8_cycle_205 : decode cX8_cycle 205 = .ok (.aload_n 1, 1) := by decide +kernel
theorem dX8_cycle_206 : decode cX8_cycle 206 = .ok (.invokevirtual 167, 3) := by decide +kernel
theorem dX8_cycle_209 : decode cX8_cycle 209 = .ok (.return_, 1) := by decide +kernel
theorem dX8_turns_0 : decode cX8_turns 0 = .ok (.aload_n 1, 1) := by decide +kernel
theorem dX8_turns_1 : decode cX8_turns 1 = .ok (.bipush 20, 2) := by decide +kernel
theorem dX8_turns_3 : decode cX8_turns 3 = .ok (.iload_n 2, 1) := by decide +kernel
theorem dX8_turns_4 : decode cX8_turns 4 = .ok (.iastore, 1) := by decide +kernel
theorem dX8_turns_5 : decode cX8_turns 5 = .ok (.aload_n 1, 1) := by decide +kernel
theorem dX8_turns_6 : decode cX8_turns 6 = .ok (.bipush 21, 2) := by decide +kernel
theorem dX8_turns_8 : decode cX8_turns 8 = .ok (.iload_n 3, 1) := by decide +kernel
theorem dX8_turns_9 : decode cX8_turns 9 = .ok (.iastore, 1) := by decide +kernel
theorem dX8_turns_10 : decode cX8_turns 10 = .ok (.return_, 1) := by decide +kernel
theorem dX8_runs_0 : decode cX8_runs 0 = .ok (.aload_n 1, 1) := by decide +kernel
theorem dX8_runs_1 : decode cX8_runs 1 = .ok (.bipush 22, 2) := by decide +kernel
theorem dX8_runs_3 : decode cX8_runs 3 = .ok (.iaload, 1) := by decide +kernel
theorem dX8_runs_4 : decode cX8_runs 4 = .ok (.ifCond .le 12, 3) := by decide +kernel
theorem dX8_runs_7 : decode cX8_runs 7 = .ok (.aload_n 1, 1) := by decide +kernel
theorem dX8_runs_8 : decode cX8_runs 8 = .ok (.bipush 22, 2) := by decide +kernel
theorem dX8_runs_10 : decode cX8_runs 10 = .ok (.dup2, 1) := by decide +kernel
theorem dX8_runs_11 : decode cX8_runs 11 = .ok (.iaload, 1) := by decide +kernel
theorem dX8_runs_12 : decode cX8_runs 12 = .ok (.iconst 1, 1) := by decide +kernel
theorem dX8_runs_13 : decode cX8_runs 13 = .ok (.isub, 1) := by decide +kernel
theorem dX8_runs_14 : decode cX8_runs 14 = .ok (.iastore, 1) := by decide +kernel
theorem dX8_runs_15 : decode cX8_runs 15 = .ok (.return_, 1) := by decide +kernel
theorem dX8_runs_16 : decode cX8_runs 16 = .ok (.aload_n 0, 1) := by decide +kernel
theorem dX8_runs_17 : decode cX8_runs 17 = .ok (.aload_n 1, 1) := by decide +kernel
theorem dX8_runs_18 : decode cX8_runs 18 = .ok (.invokevirtual 170, 3) := by decide +kernel
theorem dX8_runs_21 : decode cX8_runs 21 = .ok (.istore_n 2, 1) := by decide +kernel
theorem dX8_runs_22 : decode cX8_runs 22 = .ok (.iload_n 2, 1) := by decide +kernel
theorem dX8_runs_23 : decode cX8_runs 23 = .ok (.ifCond .lt 36, 3) := by decide +kernel
theorem dX8_runs_26 : decode cX8_runs 26 = .ok (.aload_n 1, 1) := by decide +kernel
theorem dX8_runs_27 : decode cX8_runs 27 = .ok (.bipush 24, 2) := by decide +kernel
theorem dX8_runs_29 : decode cX8_runs 29 = .ok (.iload_n 2, 1) := by decide +kernel
theorem dX8_runs_30 : decode cX8_runs 30 = .ok (.iastore, 1) := by decide +kernel
theorem dX8_runs_31 : decode cX8_runs 31 = .ok (.aload_n 1, 1) := by decide +kernel
theorem dX8_runs_32 : decode cX8_runs 32 = .ok (.bipush 23, 2) := by decide +kernel
theorem dX8_runs_34 : decode cX8_runs 34 = .ok (.iconst 0, 1) := by decide +kernel
theorem dX8_runs_35 : decode cX8_runs 35 = .ok (.iastore, 1) := by decide +kernel
theorem dX8_runs_36 : decode cX8_runs 36 = .ok (.aload_n 1, 1) := by decide +kernel
theorem dX8_runs_37 : decode cX8_runs 37 = .ok (.bipush 28, 2) := by decide +kernel
theorem dX8_runs_39 : decode cX8_runs 39 = .ok (.iconst 0, 1) := by decide +kernel
theorem dX8_runs_40 : decode cX8_runs 40 = .ok (.iastore, 1) := by decide +kernel
theorem dX8_runs_41 : decode cX8_runs 41 = .ok (.aload_n 1, 1) := by decide +kernel
theorem dX8_runs_42 : decode cX8_runs 42 = .ok (.bipush 29, 2) := by decide +kernel
theorem dX8_runs_44 : decode cX8_runs 44 = .ok (.iconst 0, 1) := by decide +kernel
theorem dX8_runs_45 : decode cX8_runs 45 = .ok (.iastore, 1) := by decide +kernel
theorem dX8_runs_46 : decode cX8_runs 46 = .ok (.aload_n 0, 1) := by decide +kernel
theorem dX8_runs_47 : decode cX8_runs 47 = .ok (.aload_n 1, 1) := by decide +kernel
theorem dX8_runs_48 : decode cX8_runs 48 = .ok (.iconst 1, 1) := by decide +kernel
theorem dX8_runs_49 : decode cX8_runs 49 = .ok (.iconst 0, 1) := by decide +kernel
theorem dX8_runs_50 : decode cX8_runs 50 = .ok (.invokevirtual 173, 3) := by decide +kernel
theorem dX8_runs_53 : decode cX8_runs 53 = .ok (.aload_n 0, 1) := by decide +kernel
theorem dX8_runs_54 : decode cX8_runs 54 = .ok (.aload_n 1, 1) := by decide +kernel
theorem dX8_runs_55 : decode cX8_runs 55 = .ok (.invokevirtual 158, 3) := by decide +kernel
theorem dX8_runs_58 : decode cX8_runs 58 = .ok (.return_, 1) := by decide +kernel
theorem dX8_runs_59 : decode cX8_runs 59 = .ok (.aload_n 1, 1) := by decide +kernel
theorem dX8_runs_60 : decode cX8_runs 60 = .ok (.bipush 23, 2) := by decide +kernel
theorem dX8_runs_62 : decode cX8_runs 62 = .ok (.iaload, 1) := by decide +kernel
theorem dX8_runs_63 : decode cX8_runs 63 = .ok (.iconst 1, 1) := by decide +kernel
theorem dX8_runs_64 : decode cX8_runs 64 = .ok (.if_icmp .ne 13, 3) := by decide +kernel
theorem dX8_runs_67 : decode cX8_runs 67 = .ok (.aload_n 0, 1) := by decide +kernel
theorem dX8_runs_68 : decode cX8_runs 68 = .ok (.aload_n 1, 1) := by decide +kernel
theorem dX8_runs_69 : decode cX8_runs 69 = .ok (.iconst 0, 1) := by decide +kernel
theorem dX8_runs_70 : decode cX8_runs 70 = .ok (.invokevirtual 127, 3) := by decide +kernel
theorem dX8_runs_73 : decode cX8_runs 73 = .ok (.ifCond .ge 4, 3) := by decide +kernel
theorem dX8_runs_76 : decode cX8_runs 76 = .ok (.return_, 1) := by decide +kernel
theorem dX8_runs_77 : decode cX8_runs 77 = .ok (.aload_n 1, 1) := by decide +kernel
theorem dX8_runs_78 : decode cX8_runs 78 = .ok (.bipush 23, 2) := by decide +kernel
theorem dX8_runs_80 : decode cX8_runs 80 = .ok (.iconst 0, 1) := by decide +kernel
theorem dX8_runs_81 : decode cX8_runs 81 = .ok (.iastore, 1) := by decide +kernel
theorem dX8_runs_82 : decode cX8_runs 82 = .ok (.aload_n 0, 1) := by decide +kernel
theorem dX8_runs_83 : decode cX8_runs 83 = .ok (.aload_n 1, 1) := by decide +kernel
theorem dX8_runs_84 : decode cX8_runs 84 = .ok (.invokevirtual 177, 3) := by decide +kernel
theorem dX8_runs_87 : decode cX8_runs 87 = .ok (.return_, 1) := by decide +kernel
theorem dX8_rises_0 : decode cX8_rises 0 = .ok (.aload_n 1, 1) := by decide +kernel
theorem dX8_rises_1 : decode cX8_rises 1 = .ok (.bipush 15, 2) := by decide +kernel
theorem dX8_rises_3 : decode cX8_rises 3 = .ok (.dup2, 1) := by decide +kernel
theorem dX8_rises_4 : decode cX8_rises 4 = .ok (.iaload, 1) := by decide +kernel
theorem dX8_rises_5 : decode cX8_rises 5 = .ok (.iload_n 2, 1) := by decide +kernel
theorem dX8_rises_6 : decode cX8_rises 6 = .ok (.iadd, 1) := by decide +kernel
theorem dX8_rises_7 : decode cX8_rises 7 = .ok (.iastore, 1) := by decide +kernel
theorem dX8_rises_8 : decode cX8_rises 8 = .ok (.aload_n 0, 1) := by decide +kernel
theorem dX8_rises_9 : decode cX8_rises 9 = .ok (.getfield 72, 3) := by decide +kernel
theorem dX8_rises_12 : decode cX8_rises 12 = .ok (.ifCond .eq 28, 3) := by decide +kernel
theorem dX8_rises_15 : decode cX8_rises 15 = .ok (.aload_n 1, 1) := by decide +kernel
theorem dX8_rises_16 : decode cX8_rises 16 = .ok (.bipush 15, 2) := by decide +kernel
theorem dX8_rises_18 : decode cX8_rises 18 = .ok (.iaload, 1) := by decide +kernel
theorem dX8_rises_19 : decode cX8_rises 19 = .ok (.aload_n 0, 1) := by decide +kernel
theorem dX8_rises_20 : decode cX8_rises 20 = .ok (.getfield 26, 3) := by decide +kernel
theorem dX8_rises_23 : decode cX8_rises 23 = .ok (.bipush 13, 2) := by decide +kernel
theorem dX8_rises_25 : decode cX8_rises 25 = .ok (.iaload, 1) := by decide +kernel
theorem dX8_rises_26 : decode cX8_rises 26 = .ok (.if_icmp .le 14, 3) := by decide +kernel
theorem dX8_rises_29 : decode cX8_rises 29 = .ok (.aload_n 0, 1) := by decide +kernel
theorem dX8_rises_30 : decode cX8_rises 30 = .ok (.getfield 26, 3) := by decide +kernel
theorem dX8_rises_33 : decode cX8_rises 33 = .ok (.bipush 13, 2) := by decide +kernel
theorem dX8_rises_35 : decode cX8_rises 35 = .ok (.aload_n 1, 1) := by decide +kernel
theorem dX8_rises_36 : decode cX8_rises 36 = .ok (.bipush 15, 2) := by decide +kernel
theorem dX8_rises_38 : decode cX8_rises 38 = .ok (.iaload, 1) := by decide +kernel
theorem dX8_rises_39 : decode cX8_rises 39 = .ok (.iastore, 1) := by decide +kernel
theorem dX8_rises_40 : decode cX8_rises 40 = .ok (.return_, 1) := by decide +kernel
theorem dX8_hasRoom_0 : decode cX8_hasRoom 0 = .ok (.aload_n 1, 1) := by decide +kernel
theorem dX8_hasRoom_1 : decode cX8_hasRoom 1 = .ok (.bipush 28, 2) := by decide +kernel
theorem dX8_hasRoom_3 : decode cX8_hasRoom 3 = .ok (.iaload, 1) := by decide +kernel
theorem dX8_hasRoom_4 : decode cX8_hasRoom 4 = .ok (.iconst 1, 1) := by decide +kernel
theorem dX8_hasRoom_5 : decode cX8_hasRoom 5 = .ok (.if_icmp .ne 5, 3) := by decide +kernel
theorem dX8_hasRoom_8 : decode cX8_hasRoom 8 = .ok (.iconst 0, 1) := by decide +kernel
theorem dX8_hasRoom_9 : decode cX8_hasRoom 9 = .ok (.ireturn, 1) := by decide +kernel
theorem dX8_hasRoom_10 : decode cX8_hasRoom 10 = .ok (.aload_n 1, 1) := by decide +kernel
theorem dX8_hasRoom_11 : decode cX8_hasRoom 11 = .ok (.bipush 15, 2) := by decide +kernel
theorem dX8_hasRoom_13 : decode cX8_hasRoom 13 = .ok (.iaload, 1) := by decide +kernel
theorem dX8_hasRoom_14 : decode cX8_hasRoom 14 = .ok (.iload_n 2, 1) := by decide +kernel
theorem dX8_hasRoom_15 : decode cX8_hasRoom 15 = .ok (.iadd, 1) := by decide +kernel
theorem dX8_hasRoom_16 : decode cX8_hasRoom 16 = .ok (.bipush 96, 2) := by decide +kernel
theorem dX8_hasRoom_18 : decode cX8_hasRoom 18 = .ok (.if_icmp .gt 5, 3) := by decide +kernel
theorem dX8_hasRoom_21 : decode cX8_hasRoom 21 = .ok (.iconst 1, 1) := by decide +kernel
theorem dX8_hasRoom_22 : decode cX8_hasRoom 22 = .ok (.ireturn, 1) := by decide +kernel
theorem dX8_hasRoom_23 : decode cX8_hasRoom 23 = .ok (.aload_n 1, 1) := by decide +kernel
theorem dX8_hasRoom_24 : decode cX8_hasRoom 24 = .ok (.bipush 28, 2) := by decide +kernel
theorem dX8_hasRoom_26 : decode cX8_hasRoom 26 = .ok (.iconst 1, 1) := by decide +kernel
theorem dX8_hasRoom_27 : decode cX8_hasRoom 27 = .ok (.iastore, 1) := by decide +kernel
theorem dX8_hasRoom_28 : decode cX8_hasRoom 28 = .ok (.aload_n 0, 1) := by decide +kernel
theorem dX8_hasRoom_29 : decode cX8_hasRoom 29 = .ok (.aload_n 1, 1) := by decide +kernel
theorem dX8_hasRoom_30 : decode cX8_hasRoom 30 = .ok (.bipush 19, 2) := by decide +kernel
theorem dX8_hasRoom_32 : decode cX8_hasRoom 32 = .ok (.invokevirtual 180, 3) := by decide +kernel
theorem dX8_hasRoom_35 : decode cX8_hasRoom 35 = .ok (.pop, 1) := by decide +kernel
theorem dX8_hasRoom_36 : decode cX8_hasRoom 36 = .ok (.iconst 0, 1) := by decide +kernel
theorem dX8_hasRoom_37 : decode cX8_hasRoom 37 = .ok (.ireturn, 1) := by decide +kernel
theorem dX8_stacks_0 : decode cX8_stacks 0 = .ok (.aload_n 1, 1) := by decide +kernel
theorem dX8_stacks_1 : decode cX8_stacks 1 = .ok (.bipush 21, 2) := by decide +kernel
theorem dX8_stacks_3 : decode cX8_stacks 3 = .ok (.iaload, 1) := by decide +kernel
theorem dX8_stacks_4 : decode cX8_stacks 4 = .ok (.istore_n 2, 1) := by decide +kernel
theorem dX8_stacks_5 : decode cX8_stacks 5 = .ok (.iload_n 2, 1) := by decide +kernel
theorem dX8_stacks_6 : decode cX8_stacks 6 = .ok (.ifCond .ne 39, 3) := by decide +kernel
theorem dX8_stacks_9 : decode cX8_stacks 9 = .ok (.aload_n 1, 1) := by decide +kernel
theorem dX8_stacks_10 : decode cX8_stacks 10 = .ok (.bipush 18, 2) := by decide +kernel
theorem dX8_stacks_12 : decode cX8_stacks 12 = .ok (.iaload, 1) := by decide +kernel
theorem dX8_stacks_13 : decode cX8_stacks 13 = .ok (.iconst 1, 1) := by decide +kernel
theorem dX8_stacks_14 : decode cX8_stacks 14 = .ok (.if_icmp .ne 31, 3) := by decide +kernel
theorem dX8_stacks_17 : decode cX8_stacks 17 = .ok (.aload_n 0, 1) := by decide +kernel
theorem dX8_stacks_18 : decode cX8_stacks 18 = .ok (.aload_n 1, 1) := by decide +kernel
theorem dX8_stacks_19 : decode cX8_stacks 19 = .ok (.iconst 4, 1) := by decide +kernel
theorem dX8_stacks_20 : decode cX8_stacks 20 = .ok (.invokevirtual 183, 3) := by decide +kernel
theorem dX8_stacks_23 : decode cX8_stacks 23 = .ok (.ifCond .eq 22, 3) := by decide +kernel
theorem dX8_stacks_26 : decode cX8_stacks 26 = .ok (.aload_n 1, 1) := by decide +kernel
theorem dX8_stacks_27 : decode cX8_stacks 27 = .ok (.bipush 19, 2) := by decide +kernel
theorem dX8_stacks_29 : decode cX8_stacks 29 = .ok (.aload_n 1, 1) := by decide +kernel
theorem dX8_stacks_30 : decode cX8_stacks 30 = .ok (.bipush 15, 2) := by decide +kernel
theorem dX8_stacks_32 : decode cX8_stacks 32 = .ok (.iaload, 1) := by decide +kernel
theorem dX8_stacks_33 : decode cX8_stacks 33 = .ok (.iastore, 1) := by decide +kernel
theorem dX8_stacks_34 : decode cX8_stacks 34 = .ok (.aload_n 1, 1) := by decide +kernel
theorem dX8_stacks_35 : decode cX8_stacks 35 = .ok (.bipush 29, 2) := by decide +kernel
theorem dX8_stacks_37 : decode cX8_stacks 37 = .ok (.iconst 1, 1) := by decide +kernel
theorem dX8_stacks_38 : decode cX8_stacks 38 = .ok (.iastore, 1) := by decide +kernel
theorem dX8_stacks_39 : decode cX8_stacks 39 = .ok (.aload_n 0, 1) := by decide +kernel
theorem dX8_stacks_40 : decode cX8_stacks 40 = .ok (.aload_n 1, 1) := by decide +kernel
theorem dX8_stacks_41 : decode cX8_stacks 41 = .ok (.iconst 4, 1) := by decide +kernel
theorem dX8_stacks_42 : decode cX8_stacks 42 = .ok (.invokevirtual 186, 3) := by decide +kernel
theorem dX8_stacks_45 : decode cX8_stacks 45 = .ok (.aload_n 1, 1) := by decide +kernel
theorem dX8_stacks_46 : decode cX8_stacks 46 = .ok (.bipush 20, 2) := by decide +kernel
theorem dX8_stacks_48 : decode cX8_stacks 48 = .ok (.iaload, 1) := by decide +kernel
theorem dX8_stacks_49 : decode cX8_stacks 49 = .ok (.iconst 5, 1) := by decide +kernel
theorem dX8_stacks_50 : decode cX8_stacks 50 = .ok (.if_icmp .ne 4, 3) := by decide +kernel
theorem dX8_stacks_53 : decode cX8_stacks 53 = .ok (.return_, 1) := by decide +kernel
theorem dX8_stacks_54 : decode cX8_stacks 54 = .ok (.aload_n 0, 1) := by decide +kernel
theorem dX8_stacks_55 : decode cX8_stacks 55 = .ok (.aload_n 1, 1) := by decide +kernel
theorem dX8_stacks_56 : decode cX8_stacks 56 = .ok (.iconst 1, 1) := by decide +kernel
theorem dX8_stacks_57 : decode cX8_stacks 57 = .ok (.invokevirtual 183, 3) := by decide +kernel
theorem dX8_stacks_60 : decode cX8_stacks 60 = .ok (.ifCond .eq 65, 3) := by decide +kernel
theorem dX8_stacks_63 : decode cX8_stacks 63 = .ok (.aload_n 1, 1) := by decide +kernel
theorem dX8_stacks_64 : decode cX8_stacks 64 = .ok (.bipush 56, 2) := by decide +kernel
theorem dX8_stacks_66 : decode cX8_stacks 66 = .ok (.aload_n 1, 1) := by decide +kernel
theorem dX8_stacks_67 : decode cX8_stacks 67 = .ok (.bipush 15, 2) := by decide +kernel
theorem dX8_stacks_69 : decode cX8_stacks 69 = .ok (.iaload, 1) := by decide +kernel
theorem dX8_stacks_70 : decode cX8_stacks 70 = .ok (.iadd, 1) := by decide +kernel
theorem dX8_stacks_71 : decode cX8_stacks 71 = .ok (.iload_n 2, 1) := by decide +kernel
theorem dX8_stacks_72 : decode cX8_stacks 72 = .ok (.iconst 4, 1) := by decide +kernel
theorem dX8_stacks_73 : decode cX8_stacks 73 = .ok (.if_icmp .ge 11, 3) := by decide +kernel
theorem dX8_stacks_76 : decode cX8_stacks 76 = .ok (.aload_n 1, 1) := by decide +kernel
theorem dX8_stacks_77 : decode cX8_stacks 77 = .ok (.iconst 0, 1) := by decide +kernel
theorem dX8_stacks_78 : decode cX8_stacks 78 = .ok (.iload_n 2, 1) := by decide +kernel
theorem dX8_stacks_79 : decode cX8_stacks 79 = .ok (.iadd, 1) := by decide +kernel
theorem dX8_stacks_80 : decode cX8_stacks 80 = .ok (.iaload, 1) := by decide +kernel
theorem dX8_stacks_81 : decode cX8_stacks 81 = .ok (.goto 37, 3) := by decide +kernel
theorem dX8_stacks_84 : decode cX8_stacks 84 = .ok (.iload_n 2, 1) := by decide +kernel
theorem dX8_stacks_85 : decode cX8_stacks 85 = .ok (.iconst 4, 1) := by decide +kernel
theorem dX8_stacks_86 : decode cX8_stacks 86 = .ok (.if_icmp .ne 10, 3) := by decide +kernel
theorem dX8_stacks_89 : decode cX8_stacks 89 = .ok (.aload_n 1, 1) := by decide +kernel
theorem dX8_stacks_90 : decode cX8_stacks 90 = .ok (.bipush 12, 2) := by decide +kernel
theorem dX8_stacks_92 : decode cX8_stacks 92 = .ok (.iaload, 1) := by decide +kernel
theorem dX8_stacks_93 : decode cX8_stacks 93 = .ok (.goto 25, 3) := by decide +kernel
theorem dX8_stacks_96 : decode cX8_stacks 96 = .ok (.sipush 23040, 3) := by decide +kernel
theorem dX8_stacks_99 : decode cX8_stacks 99 = .ok (.aload_n 1, 1) := by decide +kernel
theorem dX8_stacks_100 : decode cX8_stacks 100 = .ok (.bipush 13, 2) := by decide +kernel
theorem dX8_stacks_102 : decode cX8_stacks 102 = .ok (.iaload, 1) := by decide +kernel
theorem dX8_stacks_103 : decode cX8_stacks 103 = .ok (.iadd, 1) := by decide +kernel
theorem dX8_stacks_104 : decode cX8_stacks 104 = .ok (.iconst 2, 1) := by decide +kernel
theorem dX8_stacks_105 : decode cX8_stacks 105 = .ok (.aload_n 1, 1) := by decide +kernel
theorem dX8_stacks_106 : decode cX8_stacks 106 = .ok (.bipush 14, 2) := by decide +kernel
theorem dX8_stacks_108 : decode cX8_stacks 108 = .ok (.iaload, 1) := by decide +kernel
theorem dX8_stacks_109 : decode cX8_stacks 109 = .ok (.imul, 1) := by decide +kernel
theorem dX8_stacks_110 : decode cX8_stacks 110 = .ok (.iadd, 1) := by decide +kernel
theorem dX8_stacks_111 : decode cX8_stacks 111 = .ok (.iconst 4, 1) := by decide +kernel
theorem dX8_stacks_112 : decode cX8_stacks 112 = .ok (.aload_n 1, 1) := by decide +kernel
theorem dX8_stacks_113 : decode cX8_stacks 113 = .ok (.bipush 29, 2) := by decide +kernel
theorem dX8_stacks_115 : decode cX8_stacks 115 = .ok (.iaload, 1) := by decide +kernel
theorem dX8_stacks_116 : decode cX8_stacks 116 = .ok (.imul, 1) := by decide +kernel
theorem dX8_stacks_117 : decode cX8_stacks 117 = .ok (.iadd, 1) := by decide +kernel
theorem dX8_stacks_118 : decode cX8_stacks 118 = .ok (.iastore, 1) := by decide +kernel
theorem dX8_stacks_119 : decode cX8_stacks 119 = .ok (.aload_n 0, 1) := by decide +kernel
theorem dX8_stacks_120 : decode cX8_stacks 120 = .ok (.aload_n 1, 1) := by decide +kernel
theorem dX8_stacks_121 : decode cX8_stacks 121 = .ok (.iconst 1, 1) := by decide +kernel
theorem dX8_stacks_122 : decode cX8_stacks 122 = .ok (.invokevirtual 186, 3) := by decide +kernel
theorem dX8_stacks_125 : decode cX8_stacks 125 = .ok (.aload_n 1, 1) := by decide +kernel
theorem dX8_stacks_126 : decode cX8_stacks 126 = .ok (.bipush 20, 2) := by decide +kernel
theorem dX8_stacks_128 : decode cX8_stacks 128 = .ok (.iaload, 1) := by decide +kernel
theorem dX8_stacks_129 : decode cX8_stacks 129 = .ok (.iconst 5, 1) := by decide +kernel
theorem dX8_stacks_130 : decode cX8_stacks 130 = .ok (.if_icmp .ne 4, 3) := by decide +kernel
theorem dX8_stacks_133 : decode cX8_stacks 133 = .ok (.return_, 1) := by decide +kernel
theorem dX8_stacks_134 : decode cX8_stacks 134 = .ok (.aload_n 1, 1) := by decide +kernel
theorem dX8_stacks_135 : decode cX8_stacks 135 = .ok (.bipush 21, 2) := by decide +kernel
theorem dX8_stacks_137 : decode cX8_stacks 137 = .ok (.iload_n 2, 1) := by decide +kernel
theorem dX8_stacks_138 : decode cX8_stacks 138 = .ok (.iconst 1, 1) := by decide +kernel
theorem dX8_stacks_139 : decode cX8_stacks 139 = .ok (.iadd, 1) := by decide +kernel
theorem dX8_stacks_140 : decode cX8_stacks 140 = .ok (.iastore, 1) := by decide +kernel
theorem dX8_stacks_141 : decode cX8_stacks 141 = .ok (.iload_n 2, 1) := by decide +kernel
theorem dX8_stacks_142 : decode cX8_stacks 142 = .ok (.iconst 5, 1) := by decide +kernel
theorem dX8_stacks_143 : decode cX8_stacks 143 = .ok (.if_icmp .ge 4, 3) := by decide +kernel
theorem dX8_stacks_146 : decode cX8_stacks 146 = .ok (.return_, 1) := by decide +kernel
theorem dX8_stacks_147 : decode cX8_stacks 147 = .ok (.aload_n 0, 1) := by decide +kernel
theorem dX8_stacks_148 : decode cX8_stacks 148 = .ok (.aload_n 1, 1) := by decide +kernel
theorem dX8_stacks_149 : decode cX8_stacks 149 = .ok (.invokevirtual 170, 3) := by decide +kernel
theorem dX8_stacks_152 : decode cX8_stacks 152 = .ok (.istore_n 3, 1) := by decide +kernel
theorem dX8_stacks_153 : decode cX8_stacks 153 = .ok (.aload_n 0, 1) := by decide +kernel
theorem dX8_stacks_154 : decode cX8_stacks 154 = .ok (.getfield 189, 3) := by decide +kernel
theorem dX8_stacks_157 : decode cX8_stacks 157 = .ok (.ifCond .eq 33, 3) := by decide +kernel
theorem dX8_stacks_160 : decode cX8_stacks 160 = .ok (.aload_n 1, 1) := by decide +kernel
theorem dX8_stacks_161 : decode cX8_stacks 161 = .ok (.sipush 194, 3) := by decide +kernel
theorem dX8_stacks_164 : decode cX8_stacks 164 = .ok (.aload_n 1, 1) := by decide +kernel
theorem dX8_stacks_165 : decode cX8_stacks 165 = .ok (.bipush 24, 2) := by decide +kernel
theorem dX8_stacks_167 : decode cX8_stacks 167 = .ok (.iaload, 1) := by decide +kernel
theorem dX8_stacks_168 : decode cX8_stacks 168 = .ok (.iadd, 1) := by decide +kernel
theorem dX8_stacks_169 : decode cX8_stacks 169 = .ok (.iaload, 1) := by decide +kernel
theorem dX8_stacks_170 : decode cX8_stacks 170 = .ok (.ifCond .lt 20, 3) := by decide +kernel
theorem dX8_stacks_173 : decode cX8_stacks 173 = .ok (.aload_n 0, 1) := by decide +kernel
theorem dX8_stacks_174 : decode cX8_stacks 174 = .ok (.aload_n 1, 1) := by decide +kernel
theorem dX8_stacks_175 : decode cX8_stacks 175 = .ok (.aload_n 1, 1) := by decide +kernel
theorem dX8_stacks_176 : decode cX8_stacks 176 = .ok (.bipush 24, 2) := by decide +kernel
theorem dX8_stacks_178 : decode cX8_stacks 178 = .ok (.iaload, 1) := by decide +kernel
theorem dX8_stacks_179 : decode cX8_stacks 179 = .ok (.invokevirtual 135, 3) := by decide +kernel
theorem dX8_stacks_182 : decode cX8_stacks 182 = .ok (.ifCond .eq 8, 3) := by decide +kernel
theorem dX8_stacks_185 : decode cX8_stacks 185 = .ok (.aload_n 1, 1) := by decide +kernel
theorem dX8_stacks_186 : decode cX8_stacks 186 = .ok (.bipush 24, 2) := by decide +kernel
theorem dX8_stacks_188 : decode cX8_stacks 188 = .ok (.iaload, 1) := by decide +kernel
theorem dX8_stacks_189 : decode cX8_stacks 189 = .ok (.istore_n 3, 1) := by decide +kernel
theorem dX8_stacks_190 : decode cX8_stacks 190 = .ok (.iload_n 3, 1) := by decide +kernel
theorem dX8_stacks_191 : decode cX8_stacks 191 = .ok (.ifCond .ge 11, 3) := by decide +kernel
theorem dX8_stacks_194 : decode cX8_stacks 194 = .ok (.aload_n 0, 1) := by decide +kernel
theorem dX8_stacks_195 : decode cX8_stacks 195 = .ok (.aload_n 1, 1) := by decide +kernel
theorem dX8_stacks_196 : decode cX8_stacks 196 = .ok (.iconst 3, 1) := by decide +kernel
theorem dX8_stacks_197 : decode cX8_stacks 197 = .ok (.iconst 0, 1) := by decide +kernel
theorem dX8_stacks_198 : decode cX8_stacks 198 = .ok (.invokevirtual 173, 3) := by decide +kernel
theorem dX8_stacks_201 : decode cX8_stacks 201 = .ok (.return_, 1) := by decide +kernel
theorem dX8_stacks_202 : decode cX8_stacks 202 = .ok (.iload_n 3, 1) := by decide +kernel
theorem dX8_stacks_203 : decode cX8_stacks 203 = .ok (.aload_n 1, 1) := by decide +kernel
theorem dX8_stacks_204 : decode cX8_stacks 204 = .ok (.bipush 24, 2) := by decide +kernel
theorem dX8_stacks_206 : decode cX8_stacks 206 = .ok (.iaload, 1) := by decide +kernel
theorem dX8_stacks_207 : decode cX8_stacks 207 = .ok (.if_icmp .eq 8, 3) := by decide +kernel
theorem dX8_stacks_210 : decode cX8_stacks 210 = .ok (.aload_n 0, 1) := by decide +kernel
theorem dX8_stacks_211 : decode cX8_stacks 211 = .ok (.iconst 3, 1) := by decide +kernel
theorem dX8_stacks_212 : decode cX8_stacks 212 = .ok (.invokevirtual 131, 3) := by decide +kernel
theorem dX8_stacks_215 : decode cX8_stacks 215 = .ok (.aload_n 0, 1) := by decide +kernel
theorem dX8_stacks_216 : decode cX8_stacks 216 = .ok (.aload_n 1, 1) := by decide +kernel
theorem dX8_stacks_217 : decode cX8_stacks 217 = .ok (.iload_n 3, 1) := by decide +kernel
theorem dX8_stacks_218 : decode cX8_stacks 218 = .ok (.iconst 0, 1) := by decide +kernel
theorem dX8_stacks_219 : decode cX8_stacks 219 = .ok (.invokevirtual 192, 3) := by decide +kernel
theorem dX8_stacks_222 : decode cX8_stacks 222 = .ok (.return_, 1) := by decide +kernel
theorem dX8_begins_0 : decode cX8_begins 0 = .ok (.aload_n 1, 1) := by decide +kernel
theorem dX8_begins_1 : decode cX8_begins 1 = .ok (.bipush 25, 2) := by decide +kernel
theorem dX8_begins_3 : decode cX8_begins 3 = .ok (.iaload, 1) := by decide +kernel
theorem dX8_begins_4 : decode cX8_begins 4 = .ok (.aload_n 1, 1) := by decide +kernel
theorem dX8_begins_5 : decode cX8_begins 5 = .ok (.sipush 194, 3) := by decide +kernel
theorem dX8_begins_8 : decode cX8_begins 8 = .ok (.iload_n 2, 1) := by decide +kernel
theorem dX8_begins_9 : decode cX8_begins 9 = .ok (.iadd, 1) := by decide +kernel
theorem dX8_begins_10 : decode cX8_begins 10 = .ok (.iaload, 1) := by decide +kernel
theorem dX8_begins_11 : decode cX8_begins 11 = .ok (.isub, 1) := by decide +kernel
theorem dX8_begins_12 : decode cX8_begins 12 = .ok (.istore 4, 2) := by decide +kernel
theorem dX8_begins_14 : decode cX8_begins 14 = .ok (.aload_n 1, 1) := by decide +kernel
theorem dX8_begins_15 : decode cX8_begins 15 = .ok (.sipush 194, 3) := by decide +kernel
theorem dX8_begins_18 : decode cX8_begins 18 = .ok (.iload_n 2, 1) := by decide +kernel
theorem dX8_begins_19 : decode cX8_begins 19 = .ok (.iadd, 1) := by decide +kernel
theorem dX8_begins_20 : decode cX8_begins 20 = .ok (.iconst (-1), 1) := by decide +kernel
theorem dX8_begins_21 : decode cX8_begins 21 = .ok (.iastore, 1) := by decide +kernel
theorem dX8_begins_22 : decode cX8_begins 22 = .ok (.aload_n 1, 1) := by decide +kernel
theorem dX8_begins_23 : decode cX8_begins 23 = .ok (.sipush 300, 3) := by decide +kernel
theorem dX8_begins_26 : decode cX8_begins 26 = .ok (.iload_n 2, 1) := by decide +kernel
theorem dX8_begins_27 : decode cX8_begins 27 = .ok (.iadd, 1) := by decide +kernel
theorem dX8_begins_28 : decode cX8_begins 28 = .ok (.iconst 1, 1) := by decide +kernel
theorem dX8_begins_29 : decode cX8_begins 29 = .ok (.iastore, 1) := by decide +kernel
theorem dX8_begins_30 : decode cX8_begins 30 = .ok (.aload_n 1, 1) := by decide +kernel
theorem dX8_begins_31 : decode cX8_begins 31 = .ok (.sipush 321, 3) := by decide +kernel
theorem dX8_begins_34 : decode cX8_begins 34 = .ok (.iload_n 2, 1) := by decide +kernel
theorem dX8_begins_35 : decode cX8_begins 35 = .ok (.iadd, 1) := by decide +kernel
theorem dX8_begins_36 : decode cX8_begins 36 = .ok (.aload_n 1, 1) := by decide +kernel
theorem dX8_begins_37 : decode cX8_begins 37 = .ok (.bipush 25, 2) := by decide +kernel
theorem dX8_begins_39 : decode cX8_begins 39 = .ok (.iaload, 1) := by decide +kernel
theorem dX8_begins_40 : decode cX8_begins 40 = .ok (.iastore, 1) := by decide +kernel
theorem dX8_begins_41 : decode cX8_begins 41 = .ok (.aload_n 1, 1) := by decide +kernel
theorem dX8_begins_42 : decode cX8_begins 42 = .ok (.sipush 152, 3) := by decide +kernel
theorem dX8_begins_45 : decode cX8_begins 45 = .ok (.aload_n 1, 1) := by decide +kernel
theorem dX8_begins_46 : decode cX8_begins 46 = .ok (.bipush 30, 2) := by decide +kernel
theorem dX8_begins_48 : decode cX8_begins 48 = .ok (.iaload, 1) := by decide +kernel
theorem dX8_begins_49 : decode cX8_begins 49 = .ok (.iadd, 1) := by decide +kernel
theorem dX8_begins_50 : decode cX8_begins 50 = .ok (.iload_n 2, 1) := by decide +kernel
theorem dX8_begins_51 : decode cX8_begins 51 = .ok (.iastore, 1) := by decide +kernel
theorem dX8_begins_52 : decode cX8_begins 52 = .ok (.aload_n 1, 1) := by decide +kernel
theorem dX8_begins_53 : decode cX8_begins 53 = .ok (.bipush 30, 2) := by decide +kernel
theorem dX8_begins_55 : decode cX8_begins 55 = .ok (.dup2, 1) := by decide +kernel
theorem dX8_begins_56 : decode cX8_begins 56 = .ok (.iaload, 1) := by decide +kernel
theorem dX8_begins_57 : decode cX8_begins 57 = .ok (.iconst 1, 1) := by decide +kernel
theorem dX8_begins_58 : decode cX8_begins 58 = .ok (.iadd, 1) := by decide +kernel
theorem dX8_begins_59 : decode cX8_begins 59 = .ok (.iastore, 1) := by decide +kernel
theorem dX8_begins_60 : decode cX8_begins 60 = .ok (.aload_n 1, 1) := by decide +kernel
theorem dX8_begins_61 : decode cX8_begins 61 = .ok (.bipush 12, 2) := by decide +kernel
theorem dX8_begins_63 : decode cX8_begins 63 = .ok (.aload_n 0, 1) := by decide +kernel
theorem dX8_begins_64 : decode cX8_begins 64 = .ok (.getfield 13, 3) := by decide +kernel
theorem dX8_begins_67 : decode cX8_begins 67 = .ok (.iload_n 2, 1) := by decide +kernel
theorem dX8_begins_68 : decode cX8_begins 68 = .ok (.iaload, 1) := by decide +kernel
theorem dX8_begins_69 : decode cX8_begins 69 = .ok (.iastore, 1) := by decide +kernel
theorem dX8_begins_70 : decode cX8_begins 70 = .ok (.aload_n 1, 1) := by decide +kernel
theorem dX8_begins_71 : decode cX8_begins 71 = .ok (.bipush 18, 2) := by decide +kernel
theorem dX8_begins_73 : decode cX8_begins 73 = .ok (.iconst 0, 1) := by decide +kernel
theorem dX8_begins_74 : decode cX8_begins 74 = .ok (.iastore, 1) := by decide +kernel
theorem dX8_begins_75 : decode cX8_begins 75 = .ok (.aload_n 0, 1) := by decide +kernel
theorem dX8_begins_76 : decode cX8_begins 76 = .ok (.aload_n 1, 1) := by decide +kernel
theorem dX8_begins_77 : decode cX8_begins 77 = .ok (.iconst 0, 1) := by decide +kernel
theorem dX8_begins_78 : decode cX8_begins 78 = .ok (.iconst 0, 1) := by decide +kernel
theorem dX8_begins_79 : decode cX8_begins 79 = .ok (.invokevirtual 173, 3) := by decide +kernel
theorem dX8_begins_82 : decode cX8_begins 82 = .ok (.aload_n 0, 1) := by decide +kernel
theorem dX8_begins_83 : decode cX8_begins 83 = .ok (.iload_n 2, 1) := by decide +kernel
theorem dX8_begins_84 : decode cX8_begins 84 = .ok (.putfield 151, 3) := by decide +kernel
theorem dX8_begins_87 : decode cX8_begins 87 = .ok (.aload_n 0, 1) := by decide +kernel
theorem dX8_begins_88 : decode cX8_begins 88 = .ok (.iconst 1, 1) := by decide +kernel
theorem dX8_begins_89 : decode cX8_begins 89 = .ok (.invokevirtual 131, 3) := by decide +kernel
theorem dX8_begins_92 : decode cX8_begins 92 = .ok (.iload_n 3, 1) := by decide +kernel
theorem dX8_begins_93 : decode cX8_begins 93 = .ok (.iconst 1, 1) := by decide +kernel
theorem dX8_begins_94 : decode cX8_begins 94 = .ok (.if_icmp .ne 8, 3) := by decide +kernel
theorem dX8_begins_97 : decode cX8_begins 97 = .ok (.aload_n 0, 1) := by decide +kernel
theorem dX8_begins_98 : decode cX8_begins 98 = .ok (.iconst 2, 1) := by decide +kernel
theorem dX8_begins_99 : decode cX8_begins 99 = .ok (.invokevirtual 131, 3) := by decide +kernel
theorem dX8_begins_102 : decode cX8_begins 102 = .ok (.aload_n 0, 1) := by decide +kernel
theorem dX8_begins_103 : decode cX8_begins 103 = .ok (.getfield 72, 3) := by decide +kernel
theorem dX8_begins_106 : decode cX8_begins 106 = .ok (.ifCond .eq 47, 3) := by decide +kernel
theorem dX8_begins_109 : decode cX8_begins 109 = .ok (.aload_n 1, 1) := by decide +kernel
theorem dX8_begins_110 : decode cX8_begins 110 = .ok (.bipush 30, 2) := by decide +kernel
theorem dX8_begins_112 : decode cX8_begins 112 = .ok (.iaload, 1) := by decide +kernel
theorem dX8_begins_113 : decode cX8_begins 113 = .ok (.aload_n 0, 1) := by decide +kernel
theorem dX8_begins_114 : decode cX8_begins 114 = .ok (.getfield 26, 3) := by decide +kernel
theorem dX8_begins_117 : decode cX8_begins 117 = .ok (.bipush 12, 2) := by decide +kernel
theorem dX8_begins_119 : decode cX8_begins 119 = .ok (.iaload, 1) := by decide +kernel
theorem dX8_begins_120 : decode cX8_begins 120 = .ok (.if_icmp .le 14, 3) := by decide +kernel
theorem dX8_begins_123 : decode cX8_begins 123 = .ok (.aload_n 0, 1) := by decide +kernel
theorem dX8_begins_124 : decode cX8_begins 124 = .ok (.getfield 26, 3) := by decide +kernel
theorem dX8_begins_127 : decode cX8_begins 127 = .ok (.bipush 12, 2) := by decide +kernel
theorem dX8_begins_129 : decode cX8_begins 129 = .ok (.aload_n 1, 1) := by decide +kernel
theorem dX8_begins_130 : decode cX8_begins 130 = .ok (.bipush 30, 2) := by decide +kernel
theorem dX8_begins_132 : decode cX8_begins 132 = .ok (.iaload, 1) := by decide +kernel
theorem dX8_begins_133 : decode cX8_begins 133 = .ok (.iastore, 1) := by decide +kernel
theorem dX8_begins_134 : decode cX8_begins 134 = .ok (.iload 4, 2) := by decide +kernel
theorem dX8_begins_136 : decode cX8_begins 136 = .ok (.aload_n 0, 1) := by decide +kernel
theorem dX8_begins_137 : decode cX8_begins 137 = .ok (.getfield 44, 3) := by decide +kernel
theorem dX8_begins_140 : decode cX8_begins 140 = .ok (.iload_n 2, 1) := by decide +kernel
theorem dX8_begins_141 : decode cX8_begins 141 = .ok (.iaload, 1) := by decide +kernel
theorem dX8_begins_142 : decode cX8_begins 142 = .ok (.if_icmp .le 11, 3) := by decide +kernel
theorem dX8_begins_145 : decode cX8_begins 145 = .ok (.aload_n 0, 1) := by decide +kernel
theorem dX8_begins_146 : decode cX8_begins 146 = .ok (.getfield 44, 3) := by decide +kernel
theorem dX8_begins_149 : decode cX8_begins 149 = .ok (.iload_n 2, 1) := by decide +kernel
theorem dX8_begins_150 : decode cX8_begins 150 = .ok (.iload 4, 2) := by decide +kernel
theorem dX8_begins_152 : decode cX8_begins 152 = .ok (.iastore, 1) := by decide +kernel
theorem dX8_begins_153 : decode cX8_begins 153 = .ok (.aload_n 0, 1) := by decide +kernel
theorem dX8_begins_154 : decode cX8_begins 154 = .ok (.iload_n 3, 1) := by decide +kernel
theorem dX8_begins_155 : decode cX8_begins 155 = .ok (.iload_n 2, 1) := by decide +kernel
theorem dX8_begins_156 : decode cX8_begins 156 = .ok (.iload 4, 2) := by decide +kernel
theorem dX8_begins_158 : decode cX8_begins 158 = .ok (.invokevirtual 147, 3) := by decide +kernel
theorem dX8_begins_161 : decode cX8_begins 161 = .ok (.return_, 1) := by decide +kernel
theorem dX8_chains_0 : decode cX8_chains 0 = .ok (.aload_n 1, 1) := by decide +kernel
theorem dX8_chains_1 : decode cX8_chains 1 = .ok (.bipush 21, 2) := by decide +kernel
theorem dX8_chains_3 : decode cX8_chains 3 = .ok (.dup2, 1) := by decide +kernel
theorem dX8_chains_4 : decode cX8_chains 4 = .ok (.iaload, 1) := by decide +kernel
theorem dX8_chains_5 : decode cX8_chains 5 = .ok (.iconst 1, 1) := by decide +kernel
theorem dX8_chains_6 : decode cX8_chains 6 = .ok (.iadd, 1) := by decide +kernel
theorem dX8_chains_7 : decode cX8_chains 7 = .ok (.iastore, 1) := by decide +kernel
theorem dX8_chains_8 : decode cX8_chains 8 = .ok (.aload_n 1, 1) := by decide +kernel
theorem dX8_chains_9 : decode cX8_chains 9 = .ok (.bipush 21, 2) := by decide +kernel
theorem dX8_chains_11 : decode cX8_chains 11 = .ok (.iaload, 1) := by decide +kernel
theorem dX8_chains_12 : decode cX8_chains 12 = .ok (.iconst 2, 1) := by decide +kernel
theorem dX8_chains_13 : decode cX8_chains 13 = .ok (.if_icmp .ge 4, 3) := by decide +kernel
theorem dX8_chains_16 : decode cX8_chains 16 = .ok (.return_, 1) := by decide +kernel
theorem dX8_chains_17 : decode cX8_chains 17 = .ok (.aload_n 0, 1) := by decide +kernel
theorem dX8_chains_18 : decode cX8_chains 18 = .ok (.aload_n 1, 1) := by decide +kernel
theorem dX8_chains_19 : decode cX8_chains 19 = .ok (.invokevirtual 170, 3) := by decide +kernel
theorem dX8_chains_22 : decode cX8_chains 22 = .ok (.istore_n 2, 1) := by decide +kernel
theorem dX8_chains_23 : decode cX8_chains 23 = .ok (.iload_n 2, 1) := by decide +kernel
theorem dX8_chains_24 : decode cX8_chains 24 = .ok (.ifCond .lt 13, 3) := by decide +kernel
theorem dX8_chains_27 : decode cX8_chains 27 = .ok (.aload_n 0, 1) := by decide +kernel
theorem dX8_chains_28 : decode cX8_chains 28 = .ok (.aload_n 1, 1) := by decide +kernel
theorem dX8_chains_29 : decode cX8_chains 29 = .ok (.iload_n 2, 1) := by decide +kernel
theorem dX8_chains_30 : decode cX8_chains 30 = .ok (.iconst 1, 1) := by decide +kernel
theorem dX8_chains_31 : decode cX8_chains 31 = .ok (.invokevirtual 192, 3) := by decide +kernel
theorem dX8_chains_34 : decode cX8_chains 34 = .ok (.goto 10, 3) := by decide +kernel
theorem dX8_chains_37 : decode cX8_chains 37 = .ok (.aload_n 0, 1) := by decide +kernel
theorem dX8_chains_38 : decode cX8_chains 38 = .ok (.aload_n 1, 1) := by decide +kernel
theorem dX8_chains_39 : decode cX8_chains 39 = .ok (.iconst 3, 1) := by decide +kernel
theorem dX8_chains_40 : decode cX8_chains 40 = .ok (.iconst 0, 1) := by decide +kernel
theorem dX8_chains_41 : decode cX8_chains 41 = .ok (.invokevirtual 173, 3) := by decide +kernel
theorem dX8_chains_44 : decode cX8_chains 44 = .ok (.return_, 1) := by decide +kernel
theorem dX8_wrongWith_0 : decode cX8_wrongWith 0 = .ok (.aload_n 1, 1) := by decide +kernel
theorem dX8_wrongWith_1 : decode cX8_wrongWith 1 = .ok (.bipush 15, 2) := by decide +kernel
theorem dX8_wrongWith_3 : decode cX8_wrongWith 3 = .ok (.iaload, 1) := by decide +kernel
theorem dX8_wrongWith_4 : decode cX8_wrongWith 4 = .ok (.bipush 6, 2) := by decide +kernel
theorem dX8_wrongWith_6 : decode cX8_wrongWith 6 = .ok (.if_icmp .ge 6, 3) := by decide +kernel
theorem dX8_wrongWith_9 : decode cX8_wrongWith 9 = .ok (.bipush 19, 2) := by decide +kernel
theorem dX8_wrongWith_11 : decode cX8_wrongWith 11 = .ok (.ireturn, 1) := by decide +kernel
theorem dX8_wrongWith_12 : decode cX8_wrongWith 12 = .ok (.aload_n 1, 1) := by decide +kernel
theorem dX8_wrongWith_13 : decode cX8_wrongWith 13 = .ok (.bipush 56, 2) := by decide +kernel
theorem dX8_wrongWith_15 : decode cX8_wrongWith 15 = .ok (.aload_n 1, 1) := by decide +kernel
theorem dX8_wrongWith_16 : decode cX8_wrongWith 16 = .ok (.bipush 15, 2) := by decide +kernel
theorem dX8_wrongWith_18 : decode cX8_wrongWith 18 = .ok (.iaload, 1) := by decide +kernel
theorem dX8_wrongWith_19 : decode cX8_wrongWith 19 = .ok (.iadd, 1) := by decide +kernel
theorem dX8_wrongWith_20 : decode cX8_wrongWith 20 = .ok (.iconst 1, 1) := by decide +kernel
theorem dX8_wrongWith_21 : decode cX8_wrongWith 21 = .ok (.isub, 1) := by decide +kernel
theorem dX8_wrongWith_22 : decode cX8_wrongWith 22 = .ok (.iaload, 1) := by decide +kernel
theorem dX8_wrongWith_23 : decode cX8_wrongWith 23 = .ok (.sipush 23040, 3) := by decide +kernel
theorem dX8_wrongWith_26 : decode cX8_wrongWith 26 = .ok (.isub, 1) := by decide +kernel
theorem dX8_wrongWith_27 : decode cX8_wrongWith 27 = .ok (.istore_n 2, 1) := by decide +kernel
theorem dX8_wrongWith_28 : decode cX8_wrongWith 28 = .ok (.iload_n 2, 1) := by decide +kernel
theorem dX8_wrongWith_29 : decode cX8_wrongWith 29 = .ok (.iconst 0, 1) := by decide +kernel
theorem dX8_wrongWith_30 : decode cX8_wrongWith 30 = .ok (.bipush 7, 2) := by decide +kernel
theorem dX8_wrongWith_32 : decode cX8_wrongWith 32 = .ok (.invokestatic 195, 3) := by decide +kernel
theorem dX8_wrongWith_35 : decode cX8_wrongWith 35 = .ok (.ifCond .ne 6, 3) := by decide +kernel
theorem dX8_wrongWith_38 : decode cX8_wrongWith 38 = .ok (.bipush 18, 2) := by decide +kernel
theorem dX8_wrongWith_40 : decode cX8_wrongWith 40 = .ok (.ireturn, 1) := by decide +kernel
theorem dX8_wrongWith_41 : decode cX8_wrongWith 41 = .ok (.iload_n 2, 1) := by decide +kernel
theorem dX8_wrongWith_42 : decode cX8_wrongWith 42 = .ok (.iconst 3, 1) := by decide +kernel
theorem dX8_wrongWith_43 : decode cX8_wrongWith 43 = .ok (.if_icmp .le 15, 3) := by decide +kernel
theorem dX8_wrongWith_46 : decode cX8_wrongWith 46 = .ok (.aload_n 1, 1) := by decide +kernel
theorem dX8_wrongWith_47 : decode cX8_wrongWith 47 = .ok (.bipush 15, 2) := by decide +kernel
theorem dX8_wrongWith_49 : decode cX8_wrongWith 49 = .ok (.iaload, 1) := by decide +kernel
theorem dX8_wrongWith_50 : decode cX8_wrongWith 50 = .ok (.bipush 10, 2) := by decide +kernel
theorem dX8_wrongWith_52 : decode cX8_wrongWith 52 = .ok (.if_icmp .ge 6, 3) := by decide +kernel
theorem dX8_wrongWith_55 : decode cX8_wrongWith 55 = .ok (.bipush 19, 2) := by decide +kernel
theorem dX8_wrongWith_57 : decode cX8_wrongWith 57 = .ok (.ireturn, 1) := by decide +kernel
theorem dX8_wrongWith_58 : decode cX8_wrongWith 58 = .ok (.aload_n 1, 1) := by decide +kernel
theorem dX8_wrongWith_59 : decode cX8_wrongWith 59 = .ok (.bipush 56, 2) := by decide +kernel
theorem dX8_wrongWith_61 : decode cX8_wrongWith 61 = .ok (.aload_n 1, 1) := by decide +kernel
theorem dX8_wrongWith_62 : decode cX8_wrongWith 62 = .ok (.bipush 15, 2) := by decide +kernel
theorem dX8_wrongWith_64 : decode cX8_wrongWith 64 = .ok (.iaload, 1) := by decide +kernel
theorem dX8_wrongWith_65 : decode cX8_wrongWith 65 = .ok (.iadd, 1) := by decide +kernel
theorem dX8_wrongWith_66 : decode cX8_wrongWith 66 = .ok (.iconst 2, 1) := by decide +kernel
theorem dX8_wrongWith_67 : decode cX8_wrongWith 67 = .ok (.isub, 1) := by decide +kernel
theorem dX8_wrongWith_68 : decode cX8_wrongWith 68 = .ok (.iaload, 1) := by decide +kernel
theorem dX8_wrongWith_69 : decode cX8_wrongWith 69 = .ok (.iconst 0, 1) := by decide +kernel
theorem dX8_wrongWith_70 : decode cX8_wrongWith 70 = .ok (.sipush 511, 3) := by decide +kernel
theorem dX8_wrongWith_73 : decode cX8_wrongWith 73 = .ok (.invokestatic 195, 3) := by decide +kernel
theorem dX8_wrongWith_76 : decode cX8_wrongWith 76 = .ok (.ifCond .eq 7, 3) := by decide +kernel
theorem dX8_wrongWith_79 : decode cX8_wrongWith 79 = .ok (.iconst (-1), 1) := by decide +kernel
theorem dX8_wrongWith_80 : decode cX8_wrongWith 80 = .ok (.goto 5, 3) := by decide +kernel
theorem dX8_wrongWith_83 : decode cX8_wrongWith 83 = .ok (.bipush 18, 2) := by decide +kernel
theorem dX8_wrongWith_85 : decode cX8_wrongWith 85 = .ok (.ireturn, 1) := by decide +kernel
theorem dX8_unstacks_0 : decode cX8_unstacks 0 = .ok (.aload_n 0, 1) := by decide +kernel
theorem dX8_unstacks_1 : decode cX8_unstacks 1 = .ok (.getfield 189, 3) := by decide +kernel
theorem dX8_unstacks_4 : decode cX8_unstacks 4 = .ok (.ifCond .eq 7, 3) := by decide +kernel
theorem dX8_unstacks_7 : decode cX8_unstacks 7 = .ok (.iconst (-1), 1) := by decide +kernel
theorem dX8_unstacks_8 : decode cX8_unstacks 8 = .ok (.goto 8, 3) := by decide +kernel
theorem dX8_unstacks_11 : decode cX8_unstacks 11 = .ok (.aload_n 0, 1) := by decide +kernel
theorem dX8_unstacks_12 : decode cX8_unstacks 12 = .ok (.aload_n 1, 1) := by decide +kernel
theorem dX8_unstacks_13 : decode cX8_unstacks 13 = .ok (.invokevirtual 170, 3) := by decide +kernel
theorem dX8_unstacks_16 : decode cX8_unstacks 16 = .ok (.istore_n 2, 1) := by decide +kernel
theorem dX8_unstacks_17 : decode cX8_unstacks 17 = .ok (.iload_n 2, 1) := by decide +kernel
theorem dX8_unstacks_18 : decode cX8_unstacks 18 = .ok (.ifCond .lt 26, 3) := by decide +kernel
theorem dX8_unstacks_21 : decode cX8_unstacks 21 = .ok (.aload_n 0, 1) := by decide +kernel
theorem dX8_unstacks_22 : decode cX8_unstacks 22 = .ok (.iconst 4, 1) := by decide +kernel
theorem dX8_unstacks_23 : decode cX8_unstacks 23 = .ok (.invokevirtual 131, 3) := by decide +kernel
theorem dX8_unstacks_26 : decode cX8_unstacks 26 = .ok (.aload_n 0, 1) := by decide +kernel
theorem dX8_unstacks_27 : decode cX8_unstacks 27 = .ok (.iconst 4, 1) := by decide +kernel
theorem dX8_unstacks_28 : decode cX8_unstacks 28 = .ok (.iload_n 2, 1) := by decide +kernel
theorem dX8_unstacks_29 : decode cX8_unstacks 29 = .ok (.aload_n 1, 1) := by decide +kernel
theorem dX8_unstacks_30 : decode cX8_unstacks 30 = .ok (.bipush 21, 2) := by decide +kernel
theorem dX8_unstacks_32 : decode cX8_unstacks 32 = .ok (.iaload, 1) := by decide +kernel
theorem dX8_unstacks_33 : decode cX8_unstacks 33 = .ok (.invokevirtual 147, 3) := by decide +kernel
theorem dX8_unstacks_36 : decode cX8_unstacks 36 = .ok (.aload_n 0, 1) := by decide +kernel
theorem dX8_unstacks_37 : decode cX8_unstacks 37 = .ok (.aload_n 1, 1) := by decide +kernel
theorem dX8_unstacks_38 : decode cX8_unstacks 38 = .ok (.iconst 2, 1) := by decide +kernel
theorem dX8_unstacks_39 : decode cX8_unstacks 39 = .ok (.iconst 1, 1) := by decide +kernel
theorem dX8_unstacks_40 : decode cX8_unstacks 40 = .ok (.invokevirtual 173, 3) := by decide +kernel
theorem dX8_unstacks_43 : decode cX8_unstacks 43 = .ok (.return_, 1) := by decide +kernel
theorem dX8_unstacks_44 : decode cX8_unstacks 44 = .ok (.aload_n 1, 1) := by decide +kernel
theorem dX8_unstacks_45 : decode cX8_unstacks 45 = .ok (.bipush 21, 2) := by decide +kernel
theorem dX8_unstacks_47 : decode cX8_unstacks 47 = .ok (.iaload, 1) := by decide +kernel
theorem dX8_unstacks_48 : decode cX8_unstacks 48 = .ok (.ifCond .ne 74, 3) := by decide +kernel
theorem dX8_unstacks_51 : decode cX8_unstacks 51 = .ok (.aload_n 0, 1) := by decide +kernel
theorem dX8_unstacks_52 : decode cX8_unstacks 52 = .ok (.aload_n 1, 1) := by decide +kernel
theorem dX8_unstacks_53 : decode cX8_unstacks 53 = .ok (.invokevirtual 199, 3) := by decide +kernel
theorem dX8_unstacks_56 : decode cX8_unstacks 56 = .ok (.istore_n 3, 1) := by decide +kernel
theorem dX8_unstacks_57 : decode cX8_unstacks 57 = .ok (.iload_n 3, 1) := by decide +kernel
theorem dX8_unstacks_58 : decode cX8_unstacks 58 = .ok (.ifCond .lt 20, 3) := by decide +kernel
theorem dX8_unstacks_61 : decode cX8_unstacks 61 = .ok (.aload_n 0, 1) := by decide +kernel
theorem dX8_unstacks_62 : decode cX8_unstacks 62 = .ok (.aload_n 1, 1) := by decide +kernel
theorem dX8_unstacks_63 : decode cX8_unstacks 63 = .ok (.iload_n 3, 1) := by decide +kernel
theorem dX8_unstacks_64 : decode cX8_unstacks 64 = .ok (.invokevirtual 180, 3) := by decide +kernel
theorem dX8_unstacks_67 : decode cX8_unstacks 67 = .ok (.ifCond .ne 10, 3) := by decide +kernel
theorem dX8_unstacks_70 : decode cX8_unstacks 70 = .ok (.aload_n 0, 1) := by decide +kernel
theorem dX8_unstacks_71 : decode cX8_unstacks 71 = .ok (.aload_n 1, 1) := by decide +kernel
theorem dX8_unstacks_72 : decode cX8_unstacks 72 = .ok (.iconst 2, 1) := by decide +kernel
theorem dX8_unstacks_73 : decode cX8_unstacks 73 = .ok (.iconst 0, 1) := by decide +kernel
theorem dX8_unstacks_74 : decode cX8_unstacks 74 = .ok (.invokevirtual 173, 3) := by decide +kernel
theorem dX8_unstacks_77 : decode cX8_unstacks 77 = .ok (.return_, 1) := by decide +kernel
theorem dX8_unstacks_78 : decode cX8_unstacks 78 = .ok (.aload_n 1, 1) := by decide +kernel
theorem dX8_unstacks_79 : decode cX8_unstacks 79 = .ok (.bipush 32, 2) := by decide +kernel
theorem dX8_unstacks_81 : decode cX8_unstacks 81 = .ok (.aload_n 1, 1) := by decide +kernel
theorem dX8_unstacks_82 : decode cX8_unstacks 82 = .ok (.bipush 56, 2) := by decide +kernel
theorem dX8_unstacks_84 : decode cX8_unstacks 84 = .ok (.aload_n 1, 1) := by decide +kernel
theorem dX8_unstacks_85 : decode cX8_unstacks 85 = .ok (.bipush 15, 2) := by decide +kernel
theorem dX8_unstacks_87 : decode cX8_unstacks 87 = .ok (.iaload, 1) := by decide +kernel
theorem dX8_unstacks_88 : decode cX8_unstacks 88 = .ok (.iadd, 1) := by decide +kernel
theorem dX8_unstacks_89 : decode cX8_unstacks 89 = .ok (.iconst 1, 1) := by decide +kernel
theorem dX8_unstacks_90 : decode cX8_unstacks 90 = .ok (.isub, 1) := by decide +kernel
theorem dX8_unstacks_91 : decode cX8_unstacks 91 = .ok (.iaload, 1) := by decide +kernel
theorem dX8_unstacks_92 : decode cX8_unstacks 92 = .ok (.sipush 23040, 3) := by decide +kernel
theorem dX8_unstacks_95 : decode cX8_unstacks 95 = .ok (.isub, 1) := by decide +kernel
theorem dX8_unstacks_96 : decode cX8_unstacks 96 = .ok (.iconst 3, 1) := by decide +kernel
theorem dX8_unstacks_97 : decode cX8_unstacks 97 = .ok (.if_icmp .le 22, 3) := by decide +kernel
theorem dX8_unstacks_100 : decode cX8_unstacks 100 = .ok (.aload_n 1, 1) := by decide +kernel
theorem dX8_unstacks_101 : decode cX8_unstacks 101 = .ok (.bipush 19, 2) := by decide +kernel
theorem dX8_unstacks_103 : decode cX8_unstacks 103 = .ok (.iaload, 1) := by decide +kernel
theorem dX8_unstacks_104 : decode cX8_unstacks 104 = .ok (.aload_n 1, 1) := by decide +kernel
theorem dX8_unstacks_105 : decode cX8_unstacks 105 = .ok (.bipush 15, 2) := by decide +kernel
theorem dX8_unstacks_107 : decode cX8_unstacks 107 = .ok (.iaload, 1) := by decide +kernel
theorem dX8_unstacks_108 : decode cX8_unstacks 108 = .ok (.bipush 10, 2) := by decide +kernel
theorem dX8_unstacks_110 : decode cX8_unstacks 110 = .ok (.isub, 1) := by decide +kernel
theorem dX8_unstacks_111 : decode cX8_unstacks 111 = .ok (.if_icmp .eq 8, 3) := by decide +kernel
theorem dX8_unstacks_114 : decode cX8_unstacks 114 = .ok (.bipush 10, 2) := by decide +kernel
theorem dX8_unstacks_116 : decode cX8_unstacks 116 = .ok (.goto 5, 3) := by decide +kernel
theorem dX8_unstacks_119 : decode cX8_unstacks 119 = .ok (.bipush 6, 2) := by decide +kernel
theorem dX8_unstacks_121 : decode cX8_unstacks 121 = .ok (.iastore, 1) := by decide +kernel
theorem dX8_unstacks_122 : decode cX8_unstacks 122 = .ok (.aload_n 1, 1) := by decide +kernel
theorem dX8_unstacks_123 : decode cX8_unstacks 123 = .ok (.bipush 21, 2) := by decide +kernel
theorem dX8_unstacks_125 : decode cX8_unstacks 125 = .ok (.dup2, 1) := by decide +kernel
theorem dX8_unstacks_126 : decode cX8_unstacks 126 = .ok (.iaload, 1) := by decide +kernel
theorem dX8_unstacks_127 : decode cX8_unstacks 127 = .ok (.iconst 1, 1) := by decide +kernel
theorem dX8_unstacks_128 : decode cX8_unstacks 128 = .ok (.iadd, 1) := by decide +kernel
theorem dX8_unstacks_129 : decode cX8_unstacks 129 = .ok (.iastore, 1) := by decide +kernel
theorem dX8_unstacks_130 : decode cX8_unstacks 130 = .ok (.aload_n 1, 1) := by decide +kernel
theorem dX8_unstacks_131 : decode cX8_unstacks 131 = .ok (.bipush 21, 2) := by decide +kernel
theorem dX8_unstacks_133 : decode cX8_unstacks 133 = .ok (.iaload, 1) := by decide +kernel
theorem dX8_unstacks_134 : decode cX8_unstacks 134 = .ok (.aload_n 1, 1) := by decide +kernel
theorem dX8_unstacks_135 : decode cX8_unstacks 135 = .ok (.bipush 32, 2) := by decide +kernel
theorem dX8_unstacks_137 : decode cX8_unstacks 137 = .ok (.iaload, 1) := by decide +kernel
theorem dX8_unstacks_138 : decode cX8_unstacks 138 = .ok (.if_icmp .ne 8, 3) := by decide +kernel
theorem dX8_unstacks_141 : decode cX8_unstacks 141 = .ok (.aload_n 0, 1) := by decide +kernel
theorem dX8_unstacks_142 : decode cX8_unstacks 142 = .ok (.aload_n 1, 1) := by decide +kernel
theorem dX8_unstacks_143 : decode cX8_unstacks 143 = .ok (.invokevirtual 202, 3) := by decide +kernel
theorem dX8_unstacks_146 : decode cX8_unstacks 146 = .ok (.return_, 1) := by decide +kernel
theorem dX8_returns_0 : decode cX8_returns 0 = .ok (.bipush 56, 2) := by decide +kernel
theorem dX8_returns_2 : decode cX8_returns 2 = .ok (.aload_n 1, 1) := by decide +kernel
theorem dX8_returns_3 : decode cX8_returns 3 = .ok (.bipush 15, 2) := by decide +kernel
theorem dX8_returns_5 : decode cX8_returns 5 = .ok (.iaload, 1) := by decide +kernel
theorem dX8_returns_6 : decode cX8_returns 6 = .ok (.iadd, 1) := by decide +kernel
theorem dX8_returns_7 : decode cX8_returns 7 = .ok (.istore_n 2, 1) := by decide +kernel
theorem dX8_returns_8 : decode cX8_returns 8 = .ok (.aload_n 1, 1) := by decide +kernel
theorem dX8_returns_9 : decode cX8_returns 9 = .ok (.iload_n 2, 1) := by decide +kernel
theorem dX8_returns_10 : decode cX8_returns 10 = .ok (.iconst 1, 1) := by decide +kernel
theorem dX8_returns_11 : decode cX8_returns 11 = .ok (.isub, 1) := by decide +kernel
theorem dX8_returns_12 : decode cX8_returns 12 = .ok (.iaload, 1) := by decide +kernel
theorem dX8_returns_13 : decode cX8_returns 13 = .ok (.sipush 23040, 3) := by decide +kernel
theorem dX8_returns_16 : decode cX8_returns 16 = .ok (.isub, 1) := by decide +kernel
theorem dX8_returns_17 : decode cX8_returns 17 = .ok (.istore_n 3, 1) := by decide +kernel
theorem dX8_returns_18 : decode cX8_returns 18 = .ok (.aload_n 1, 1) := by decide +kernel
theorem dX8_returns_19 : decode cX8_returns 19 = .ok (.bipush 32, 2) := by decide +kernel
theorem dX8_returns_21 : decode cX8_returns 21 = .ok (.iaload, 1) := by decide +kernel
theorem dX8_returns_22 : decode cX8_returns 22 = .ok (.bipush 10, 2) := by decide +kernel
theorem dX8_returns_24 : decode cX8_returns 24 = .ok (.if_icmp .ne 56, 3) := by decide +kernel
theorem dX8_returns_27 : decode cX8_returns 27 = .ok (.iconst 0, 1) := by decide +kernel
theorem dX8_returns_28 : decode cX8_returns 28 = .ok (.istore 4, 2) := by decide +kernel
theorem dX8_returns_30 : decode cX8_returns 30 = .ok (.iload 4, 2) := by decide +kernel
theorem dX8_returns_32 : decode cX8_returns 32 = .ok (.iconst 4, 1) := by decide +kernel
theorem dX8_returns_33 : decode cX8_returns 33 = .ok (.if_icmp .ge 44, 3) := by decide +kernel
theorem dX8_returns_36 : decode cX8_returns 36 = .ok (.aload_n 1, 1) := by decide +kernel
theorem dX8_returns_37 : decode cX8_returns 37 = .ok (.bipush 8, 2) := by decide +kernel
theorem dX8_returns_39 : decode cX8_returns 39 = .ok (.iload 4, 2) := by decide +kernel
theorem dX8_returns_41 : decode cX8_returns 41 = .ok (.iadd, 1) := by decide +kernel
theorem dX8_returns_42 : decode cX8_returns 42 = .ok (.aload_n 1, 1) := by decide +kernel
theorem dX8_returns_43 : decode cX8_returns 43 = .ok (.iload_n 2, 1) := by decide +kernel
theorem dX8_returns_44 : decode cX8_returns 44 = .ok (.bipush 10, 2) := by decide +kernel
theorem dX8_returns_46 : decode cX8_returns 46 = .ok (.isub, 1) := by decide +kernel
theorem dX8_returns_47 : decode cX8_returns 47 = .ok (.iload 4, 2) := by decide +kernel
theorem dX8_returns_49 : decode cX8_returns 49 = .ok (.iadd, 1) := by decide +kernel
theorem dX8_returns_50 : decode cX8_returns 50 = .ok (.iaload, 1) := by decide +kernel
theorem dX8_returns_51 : decode cX8_returns 51 = .ok (.invokestatic 205, 3) := by decide +kernel
theorem dX8_returns_54 : decode cX8_returns 54 = .ok (.ifCond .eq 15, 3) := by decide +kernel
theorem dX8_returns_57 : decode cX8_returns 57 = .ok (.aload_n 1, 1) := by decide +kernel
theorem dX8_returns_58 : decode cX8_returns 58 = .ok (.iload_n 2, 1) := by decide +kernel
theorem dX8_returns_59 : decode cX8_returns 59 = .ok (.bipush 10, 2) := by decide +kernel
theorem dX8_returns_61 : decode cX8_returns 61 = .ok (.isub, 1) := by decide +kernel
theorem dX8_returns_62 : decode cX8_returns 62 = .ok (.iload 4, 2) := by decide +kernel
theorem dX8_returns_64 : decode cX8_returns 64 = .ok (.iadd, 1) := by decide +kernel
theorem dX8_returns_65 : decode cX8_returns 65 = .ok (.iaload, 1) := by decide +kernel
theorem dX8_returns_66 : decode cX8_returns 66 = .ok (.goto 4, 3) := by decide +kernel
theorem dX8_returns_69 : decode cX8_returns 69 = .ok (.iconst 0, 1) := by decide +kernel
theorem dX8_returns_70 : decode cX8_returns 70 = .ok (.iastore, 1) := by decide +kernel
theorem dX8_returns_71 : decode cX8_returns 71 = .ok (.iinc 4 1, 3) := by decide +kernel
theorem dX8_returns_74 : decode cX8_returns 74 = .ok (.goto (-44), 3) := by decide +kernel
theorem dX8_returns_77 : decode cX8_returns 77 = .ok (.goto 19, 3) := by decide +kernel
theorem dX8_returns_80 : decode cX8_returns 80 = .ok (.iload_n 3, 1) := by decide +kernel
theorem dX8_returns_81 : decode cX8_returns 81 = .ok (.iconst 3, 1) := by decide +kernel
theorem dX8_returns_82 : decode cX8_returns 82 = .ok (.if_icmp .le 14, 3) := by decide +kernel
theorem dX8_returns_85 : decode cX8_returns 85 = .ok (.aload_n 1, 1) := by decide +kernel
theorem dX8_returns_86 : decode cX8_returns 86 = .ok (.bipush 19, 2) := by decide +kernel
theorem dX8_returns_88 : decode cX8_returns 88 = .ok (.iconst (-1), 1) := by decide +kernel
theorem dX8_returns_89 : decode cX8_returns 89 = .ok (.iastore, 1) := by decide +kernel
theorem dX8_returns_90 : decode cX8_returns 90 = .ok (.aload_n 0, 1) := by decide +kernel
theorem dX8_returns_91 : decode cX8_returns 91 = .ok (.bipush 6, 2) := by decide +kernel
theorem dX8_returns_93 : decode cX8_returns 93 = .ok (.invokevirtual 131, 3) := by decide +kernel
theorem dX8_returns_96 : decode cX8_returns 96 = .ok (.aload_n 1, 1) := by decide +kernel
theorem dX8_returns_97 : decode cX8_returns 97 = .ok (.bipush 18, 2) := by decide +kernel
theorem dX8_returns_99 : decode cX8_returns 99 = .ok (.iload_n 3, 1) := by decide +kernel
theorem dX8_returns_100 : decode cX8_returns 100 = .ok (.iconst 3, 1) := by decide +kernel
theorem dX8_returns_101 : decode cX8_returns 101 = .ok (.if_icmp .le 7, 3) := by decide +kernel
theorem dX8_returns_104 : decode cX8_returns 104 = .ok (.iconst 1, 1) := by decide +kernel
theorem dX8_returns_105 : decode cX8_returns 105 = .ok (.goto 4, 3) := by decide +kernel
theorem dX8_returns_108 : decode cX8_returns 108 = .ok (.iconst 0, 1) := by decide +kernel
theorem dX8_returns_109 : decode cX8_returns 109 = .ok (.iastore, 1) := by decide +kernel
theorem dX8_returns_110 : decode cX8_returns 110 = .ok (.iconst 0, 1) := by decide +kernel
theorem dX8_returns_111 : decode cX8_returns 111 = .ok (.istore 4, 2) := by decide +kernel
theorem dX8_returns_113 : decode cX8_returns 113 = .ok (.iload 4, 2) := by decide +kernel
theorem dX8_returns_115 : decode cX8_returns 115 = .ok (.iconst 4, 1) := by decide +kernel
theorem dX8_returns_116 : decode cX8_returns 116 = .ok (.if_icmp .ge 24, 3) := by decide +kernel
theorem dX8_returns_119 : decode cX8_returns 119 = .ok (.aload_n 1, 1) := by decide +kernel
theorem dX8_returns_120 : decode cX8_returns 120 = .ok (.iconst 0, 1) := by decide +kernel
theorem dX8_returns_121 : decode cX8_returns 121 = .ok (.iload 4, 2) := by decide +kernel
theorem dX8_returns_123 : decode cX8_returns 123 = .ok (.iadd, 1) := by decide +kernel
theorem dX8_returns_124 : decode cX8_returns 124 = .ok (.aload_n 1, 1) := by decide +kernel
theorem dX8_returns_125 : decode cX8_returns 125 = .ok (.iload_n 2, 1) := by decide +kernel
theorem dX8_returns_126 : decode cX8_returns 126 = .ok (.bipush 6, 2) := by decide +kernel
theorem dX8_returns_128 : decode cX8_returns 128 = .ok (.isub, 1) := by decide +kernel
theorem dX8_returns_129 : decode cX8_returns 129 = .ok (.iload 4, 2) := by decide +kernel
theorem dX8_returns_131 : decode cX8_returns 131 = .ok (.iadd, 1) := by decide +kernel
theorem dX8_returns_132 : decode cX8_returns 132 = .ok (.iaload, 1) := by decide +kernel
theorem dX8_returns_133 : decode cX8_returns 133 = .ok (.iastore, 1) := by decide +kernel
theorem dX8_returns_134 : decode cX8_returns 134 = .ok (.iinc 4 1, 3) := by decide +kernel
theorem dX8_returns_137 : decode cX8_returns 137 = .ok (.goto (-24), 3) := by decide +kernel
theorem dX8_returns_140 : decode cX8_returns 140 = .ok (.aload_n 1, 1) := by decide +kernel
theorem dX8_returns_141 : decode cX8_returns 141 = .ok (.bipush 12, 2) := by decide +kernel
theorem dX8_returns_143 : decode cX8_returns 143 = .ok (.aload_n 1, 1) := by decide +kernel
theorem dX8_returns_144 : decode cX8_returns 144 = .ok (.iload_n 2, 1) := by decide +kernel
theorem dX8_returns_145 : decode cX8_returns 145 = .ok (.iconst 2, 1) := by decide +kernel
theorem dX8_returns_146 : decode cX8_returns 146 = .ok (.isub, 1) := by decide +kernel
theorem dX8_returns_147 : decode cX8_returns 147 = .ok (.iaload, 1) := by decide +kernel
theorem dX8_returns_148 : decode cX8_returns 148 = .ok (.iastore, 1) := by decide +kernel
theorem dX8_returns_149 : decode cX8_returns 149 = .ok (.aload_n 1, 1) := by decide +kernel
theorem dX8_returns_150 : decode cX8_returns 150 = .ok (.bipush 13, 2) := by decide +kernel
theorem dX8_returns_152 : decode cX8_returns 152 = .ok (.iload_n 3, 1) := by decide +kernel
theorem dX8_returns_153 : decode cX8_returns 153 = .ok (.iconst 1, 1) := by decide +kernel
theorem dX8_returns_154 : decode cX8_returns 154 = .ok (.iand, 1) := by decide +kernel
theorem dX8_returns_155 : decode cX8_returns 155 = .ok (.iastore, 1) := by decide +kernel
theorem dX8_returns_156 : decode cX8_returns 156 = .ok (.aload_n 1, 1) := by decide +kernel
theorem dX8_returns_157 : decode cX8_returns 157 = .ok (.bipush 14, 2) := by decide +kernel
theorem dX8_returns_159 : decode cX8_returns 159 = .ok (.iload_n 3, 1) := by decide +kernel
theorem dX8_returns_160 : decode cX8_returns 160 = .ok (.iconst 1, 1) := by decide +kernel
theorem dX8_returns_161 : decode cX8_returns 161 = .ok (.ishr, 1) := by decide +kernel
theorem dX8_returns_162 : decode cX8_returns 162 = .ok (.iconst 1, 1) := by decide +kernel
theorem dX8_returns_163 : decode cX8_returns 163 = .ok (.iand, 1) := by decide +kernel
theorem dX8_returns_164 : decode cX8_returns 164 = .ok (.iastore, 1) := by decide +kernel
theorem dX8_returns_165 : decode cX8_returns 165 = .ok (.aload_n 1, 1) := by decide +kernel
theorem dX8_returns_166 : decode cX8_returns 166 = .ok (.bipush 15, 2) := by decide +kernel
theorem dX8_returns_168 : decode cX8_returns 168 = .ok (.dup2, 1) := by decide +kernel
theorem dX8_returns_169 : decode cX8_returns 169 = .ok (.iaload, 1) := by decide +kernel
theorem dX8_returns_170 : decode cX8_returns 170 = .ok (.iload_n 3, 1) := by decide +kernel
theorem dX8_returns_171 : decode cX8_returns 171 = .ok (.iconst 3, 1) := by decide +kernel
theorem dX8_returns_172 : decode cX8_returns 172 = .ok (.if_icmp .le 8, 3) := by decide +kernel
theorem dX8_returns_175 : decode cX8_returns 175 = .ok (.bipush 10, 2) := by decide +kernel
theorem dX8_returns_177 : decode cX8_returns 177 = .ok (.goto 5, 3) := by decide +kernel
theorem dX8_returns_180 : decode cX8_returns 180 = .ok (.bipush 6, 2) := by decide +kernel
theorem dX8_returns_182 : decode cX8_returns 182 = .ok (.isub, 1) := by decide +kernel
theorem dX8_returns_183 : decode cX8_returns 183 = .ok (.iastore, 1) := by decide +kernel
theorem dX8_returns_184 : decode cX8_returns 184 = .ok (.aload_n 0, 1) := by decide +kernel
theorem dX8_returns_185 : decode cX8_returns 185 = .ok (.aload_n 1, 1) := by decide +kernel
theorem dX8_returns_186 : decode cX8_returns 186 = .ok (.iconst 0, 1) := by decide +kernel
theorem dX8_returns_187 : decode cX8_returns 187 = .ok (.iconst 0, 1) := by decide +kernel
theorem dX8_returns_188 : decode cX8_returns 188 = .ok (.invokevirtual 173, 3) := by decide +kernel
theorem dX8_returns_191 : decode cX8_returns 191 = .ok (.aload_n 0, 1) := by decide +kernel
theorem dX8_returns_192 : decode cX8_returns 192 = .ok (.iconst 5, 1) := by decide +kernel
theorem dX8_returns_193 : decode cX8_returns 193 = .ok (.aload_n 1, 1) := by decide +kernel
theorem dX8_returns_194 : decode cX8_returns 194 = .ok (.bipush 30, 2) := by decide +kernel
theorem dX8_returns_196 : decode cX8_returns 196 = .ok (.iaload, 1) := by decide +kernel
theorem dX8_returns_197 : decode cX8_returns 197 = .ok (.ifCond .ne 7, 3) := by decide +kernel
theorem dX8_returns_200 : decode cX8_returns 200 = .ok (.iconst (-1), 1) := by decide +kernel
theorem dX8_returns_201 : decode cX8_returns 201 = .ok (.goto 15, 3) := by decide +kernel
theorem dX8_returns_204 : decode cX8_returns 204 = .ok (.aload_n 1, 1) := by decide +kernel
theorem dX8_returns_205 : decode cX8_returns 205 = .ok (.sipush 152, 3) := by decide +kernel
theorem dX8_returns_208 : decode cX8_returns 208 = .ok (.aload_n 1, 1) := by decide +kernel
theorem dX8_returns_209 : decode cX8_returns 209 = .ok (.bipush 30, 2) := by decide +kernel
theorem dX8_returns_211 : decode cX8_returns 211 = .ok (.iaload, 1) := by decide +kernel
theorem dX8_returns_212 : decode cX8_returns 212 = .ok (.iadd, 1) := by decide +kernel
theorem dX8_returns_213 : decode cX8_returns 213 = .ok (.iconst 1, 1) := by decide +kernel
theorem dX8_returns_214 : decode cX8_returns 214 = .ok (.isub, 1) := by decide +kernel
theorem dX8_returns_215 : decode cX8_returns 215 = .ok (.iaload, 1) := by decide +kernel
theorem dX8_returns_216 : decode cX8_returns 216 = .ok (.aload_n 1, 1) := by decide +kernel
theorem dX8_returns_217 : decode cX8_returns 217 = .ok (.bipush 15, 2) := by decide +kernel
theorem dX8_returns_219 : decode cX8_returns 219 = .ok (.iaload, 1) := by decide +kernel
theorem dX8_returns_220 : decode cX8_returns 220 = .ok (.invokevirtual 147, 3) := by decide +kernel
theorem dX8_returns_223 : decode cX8_returns 223 = .ok (.return_, 1) := by decide +kernel
theorem dX8_saves_0 : decode cX8_saves 0 = .ok (.aload_n 1, 1) := by decide +kernel
theorem dX8_saves_1 : decode cX8_saves 1 = .ok (.bipush 56, 2) := by decide +kernel
theorem dX8_saves_3 : decode cX8_saves 3 = .ok (.aload_n 1, 1) := by decide +kernel
theorem dX8_saves_4 : decode cX8_saves 4 = .ok (.bipush 19, 2) := by decide +kernel
theorem dX8_saves_6 : decode cX8_saves 6 = .ok (.iaload, 1) := by decide +kernel
theorem dX8_saves_7 : decode cX8_saves 7 = .ok (.iadd, 1) := by decide +kernel
theorem dX8_saves_8 : decode cX8_saves 8 = .ok (.aload_n 1, 1) := by decide +kernel
theorem dX8_saves_9 : decode cX8_saves 9 = .ok (.bipush 21, 2) := by decide +kernel
theorem dX8_saves_11 : decode cX8_saves 11 = .ok (.iaload, 1) := by decide +kernel
theorem dX8_saves_12 : decode cX8_saves 12 = .ok (.iadd, 1) := by decide +kernel
theorem dX8_saves_13 : decode cX8_saves 13 = .ok (.aload_n 1, 1) := by decide +kernel
theorem dX8_saves_14 : decode cX8_saves 14 = .ok (.bipush 8, 2) := by decide +kernel
theorem dX8_saves_16 : decode cX8_saves 16 = .ok (.aload_n 1, 1) := by decide +kernel
theorem dX8_saves_17 : decode cX8_saves 17 = .ok (.bipush 21, 2) := by decide +kernel
theorem dX8_saves_19 : decode cX8_saves 19 = .ok (.iaload, 1) := by decide +kernel
theorem dX8_saves_20 : decode cX8_saves 20 = .ok (.iadd, 1) := by decide +kernel
theorem dX8_saves_21 : decode cX8_saves 21 = .ok (.iaload, 1) := by decide +kernel
theorem dX8_saves_22 : decode cX8_saves 22 = .ok (.iastore, 1) := by decide +kernel
theorem dX8_saves_23 : decode cX8_saves 23 = .ok (.aload_n 1, 1) := by decide +kernel
theorem dX8_saves_24 : decode cX8_saves 24 = .ok (.bipush 21, 2) := by decide +kernel
theorem dX8_saves_26 : decode cX8_saves 26 = .ok (.dup2, 1) := by decide +kernel
theorem dX8_saves_27 : decode cX8_saves 27 = .ok (.iaload, 1) := by decide +kernel
theorem dX8_saves_28 : decode cX8_saves 28 = .ok (.iconst 1, 1) := by decide +kernel
theorem dX8_saves_29 : decode cX8_saves 29 = .ok (.iadd, 1) := by decide +kernel
theorem dX8_saves_30 : decode cX8_saves 30 = .ok (.iastore, 1) := by decide +kernel
theorem dX8_saves_31 : decode cX8_saves 31 = .ok (.aload_n 1, 1) := by decide +kernel
theorem dX8_saves_32 : decode cX8_saves 32 = .ok (.bipush 21, 2) := by decide +kernel
theorem dX8_saves_34 : decode cX8_saves 34 = .ok (.iaload, 1) := by decide +kernel
theorem dX8_saves_35 : decode cX8_saves 35 = .ok (.iconst 4, 1) := by decide +kernel
theorem dX8_saves_36 : decode cX8_saves 36 = .ok (.if_icmp .ge 4, 3) := by decide +kernel
theorem dX8_saves_39 : decode cX8_saves 39 = .ok (.return_, 1) := by decide +kernel
theorem dX8_saves_40 : decode cX8_saves 40 = .ok (.aload_n 1, 1) := by decide +kernel
theorem dX8_saves_41 : decode cX8_saves 41 = .ok (.bipush 19, 2) := by decide +kernel
theorem dX8_saves_43 : decode cX8_saves 43 = .ok (.iconst (-1), 1) := by decide +kernel
theorem dX8_saves_44 : decode cX8_saves 44 = .ok (.iastore, 1) := by decide +kernel
theorem dX8_saves_45 : decode cX8_saves 45 = .ok (.aload_n 0, 1) := by decide +kernel
theorem dX8_saves_46 : decode cX8_saves 46 = .ok (.iconst 5, 1) := by decide +kernel
theorem dX8_saves_47 : decode cX8_saves 47 = .ok (.invokevirtual 131, 3) := by decide +kernel
theorem dX8_saves_50 : decode cX8_saves 50 = .ok (.aload_n 0, 1) := by decide +kernel
theorem dX8_saves_51 : decode cX8_saves 51 = .ok (.aload_n 1, 1) := by decide +kernel
theorem dX8_saves_52 : decode cX8_saves 52 = .ok (.iconst 0, 1) := by decide +kernel
theorem dX8_saves_53 : decode cX8_saves 53 = .ok (.iconst 0, 1) := by decide +kernel
theorem dX8_saves_54 : decode cX8_saves 54 = .ok (.invokevirtual 173, 3) := by decide +kernel
theorem dX8_saves_57 : decode cX8_saves 57 = .ok (.return_, 1) := by decide +kernel
theorem dX8_comes_0 : decode cX8_comes 0 = .ok (.aload_n 1, 1) := by decide +kernel
theorem dX8_comes_1 : decode cX8_comes 1 = .ok (.iconst 0, 1) := by decide +kernel
theorem dX8_comes_2 : decode cX8_comes 2 = .ok (.iload_n 2, 1) := by decide +kernel
theorem dX8_comes_3 : decode cX8_comes 3 = .ok (.iadd, 1) := by decide +kernel
theorem dX8_comes_4 : decode cX8_comes 4 = .ok (.iload_n 3, 1) := by decide +kernel
theorem dX8_comes_5 : decode cX8_comes 5 = .ok (.iastore, 1) := by decide +kernel
theorem dX8_comes_6 : decode cX8_comes 6 = .ok (.aload_n 1, 1) := by decide +kernel
theorem dX8_comes_7 : decode cX8_comes 7 = .ok (.bipush 13, 2) := by decide +kernel
theorem dX8_comes_9 : decode cX8_comes 9 = .ok (.iload_n 3, 1) := by decide +kernel
theorem dX8_comes_10 : decode cX8_comes 10 = .ok (.ifCond .ne 7, 3) := by decide +kernel
theorem dX8_comes_13 : decode cX8_comes 13 = .ok (.iconst 1, 1) := by decide +kernel
theorem dX8_comes_14 : decode cX8_comes 14 = .ok (.goto 4, 3) := by decide +kernel
theorem dX8_comes_17 : decode cX8_comes 17 = .ok (.iconst 0, 1) := by decide +kernel
theorem dX8_comes_18 : decode cX8_comes 18 = .ok (.iastore, 1) := by decide +kernel
theorem dX8_comes_19 : decode cX8_comes 19 = .ok (.aload_n 1, 1) := by decide +kernel
theorem dX8_comes_20 : decode cX8_comes 20 = .ok (.bipush 14, 2) := by decide +kernel
theorem dX8_comes_22 : decode cX8_comes 22 = .ok (.iload_n 3, 1) := by decide +kernel
theorem dX8_comes_23 : decode cX8_comes 23 = .ok (.ifCond .ge 7, 3) := by decide +kernel
theorem dX8_comes_26 : decode cX8_comes 26 = .ok (.iconst 1, 1) := by decide +kernel
theorem dX8_comes_27 : decode cX8_comes 27 = .ok (.goto 4, 3) := by decide +kernel
theorem dX8_comes_30 : decode cX8_comes 30 = .ok (.iconst 0, 1) := by decide +kernel
theorem dX8_comes_31 : decode cX8_comes 31 = .ok (.iastore, 1) := by decide +kernel
theorem dX8_comes_32 : decode cX8_comes 32 = .ok (.return_, 1) := by decide +kernel
theorem dX8_made_0 : decode cX8_made 0 = .ok (.iload_n 0, 1) := by decide +kernel
theorem dX8_made_1 : decode cX8_made 1 = .ok (.iconst 2, 1) := by decide +kernel
theorem dX8_made_2 : decode cX8_made 2 = .ok (.if_icmp .ne 7, 3) := by decide +kernel
theorem dX8_made_5 : decode cX8_made 5 = .ok (.iload_n 1, 1) := by decide +kernel
theorem dX8_made_6 : decode cX8_made 6 = .ok (.iload_n 2, 1) := by decide +kernel
theorem dX8_made_7 : decode cX8_made 7 = .ok (.iadd, 1) := by decide +kernel
theorem dX8_made_8 : decode cX8_made 8 = .ok (.ireturn, 1) := by decide +kernel
theorem dX8_made_9 : decode cX8_made 9 = .ok (.iload_n 0, 1) := by decide +kernel
theorem dX8_made_10 : decode cX8_made 10 = .ok (.iconst 3, 1) := by decide +kernel
theorem dX8_made_11 : decode cX8_made 11 = .ok (.if_icmp .ne 7, 3) := by decide +kernel
theorem dX8_made_14 : decode cX8_made 14 = .ok (.iload_n 1, 1) := by decide +kernel
theorem dX8_made_15 : decode cX8_made 15 = .ok (.iload_n 2, 1) := by decide +kernel
theorem dX8_made_16 : decode cX8_made 16 = .ok (.isub, 1) := by decide +kernel
theorem dX8_made_17 : decode cX8_made 17 = .ok (.ireturn, 1) := by decide +kernel
theorem dX8_made_18 : decode cX8_made 18 = .ok (.iload_n 0, 1) := by decide +kernel
theorem dX8_made_19 : decode cX8_made 19 = .ok (.iconst 4, 1) := by decide +kernel
theorem dX8_made_20 : decode cX8_made 20 = .ok (.if_icmp .ne 7, 3) := by decide +kernel
theorem dX8_made_23 : decode cX8_made 23 = .ok (.iload_n 1, 1) := by decide +kernel
theorem dX8_made_24 : decode cX8_made 24 = .ok (.iload_n 2, 1) := by decide +kernel
theorem dX8_made_25 : decode cX8_made 25 = .ok (.imul, 1) := by decide +kernel
theorem dX8_made_26 : decode cX8_made 26 = .ok (.ireturn, 1) := by decide +kernel
theorem dX8_made_27 : decode cX8_made 27 = .ok (.iload_n 0, 1) := by decide +kernel
theorem dX8_made_28 : decode cX8_made 28 = .ok (.iconst 5, 1) := by decide +kernel
theorem dX8_made_29 : decode cX8_made 29 = .ok (.if_icmp .ne 17, 3) := by decide +kernel
theorem dX8_made_32 : decode cX8_made 32 = .ok (.iload_n 2, 1) := by decide +kernel
theorem dX8_made_33 : decode cX8_made 33 = .ok (.iconst (-1), 1) := by decide +kernel
theorem dX8_made_34 : decode cX8_made 34 = .ok (.if_icmp .ne 8, 3) := by decide +kernel
theorem dX8_made_37 : decode cX8_made 37 = .ok (.iload_n 1, 1) := by decide +kernel
theorem dX8_made_38 : decode cX8_made 38 = .ok (.ineg, 1) := by decide +kernel
theorem dX8_made_39 : decode cX8_made 39 = .ok (.goto 6, 3) := by decide +kernel
theorem dX8_made_42 : decode cX8_made 42 = .ok (.iload_n 1, 1) := by decide +kernel
theorem dX8_made_43 : decode cX8_made 43 = .ok (.iload_n 2, 1) := by decide +kernel
theorem dX8_made_44 : decode cX8_made 44 = .ok (.idiv, 1) := by decide +kernel
theorem dX8_made_45 : decode cX8_made 45 = .ok (.ireturn, 1) := by decide +kernel
theorem dX8_made_46 : decode cX8_made 46 = .ok (.iload_n 0, 1) := by decide +kernel
theorem dX8_made_47 : decode cX8_made 47 = .ok (.bipush 6, 2) := by decide +kernel
theorem dX8_made_49 : decode cX8_made 49 = .ok (.if_icmp .ne 7, 3) := by decide +kernel
theorem dX8_made_52 : decode cX8_made 52 = .ok (.iload_n 1, 1) := by decide +kernel
theorem dX8_made_53 : decode cX8_made 53 = .ok (.iload_n 2, 1) := by decide +kernel
theorem dX8_made_54 : decode cX8_made 54 = .ok (.ixor, 1) := by decide +kernel
theorem dX8_made_55 : decode cX8_made 55 = .ok (.ireturn, 1) := by decide +kernel
theorem dX8_made_56 : decode cX8_made 56 = .ok (.iload_n 3, 1) := by decide +kernel
theorem dX8_made_57 : decode cX8_made 57 = .ok (.bipush 63, 2) := by decide +kernel
theorem dX8_made_59 : decode cX8_made 59 = .ok (.iand, 1) := by decide +kernel
theorem dX8_made_60 : decode cX8_made 60 = .ok (.istore 4, 2) := by decide +kernel
theorem dX8_made_62 : decode cX8_made 62 = .ok (.iload 4, 2) := by decide +kernel
theorem dX8_made_64 : decode cX8_made 64 = .ok (.bipush 32, 2) := by decide +kernel
theorem dX8_made_66 : decode cX8_made 66 = .ok (.if_icmp .ge 10, 3) := by decide +kernel
theorem dX8_made_69 : decode cX8_made 69 = .ok (.iload_n 1, 1) := by decide +kernel
theorem dX8_made_70 : decode cX8_made 70 = .ok (.iload 4, 2) := by decide +kernel
theorem dX8_made_72 : decode cX8_made 72 = .ok (.ishl, 1) := by decide +kernel
theorem dX8_made_73 : decode cX8_made 73 = .ok (.goto 10, 3) := by decide +kernel
theorem dX8_made_76 : decode cX8_made 76 = .ok (.iload_n 1, 1) := by decide +kernel
theorem dX8_made_77 : decode cX8_made 77 = .ok (.iload 4, 2) := by decide +kernel
theorem dX8_made_79 : decode cX8_made 79 = .ok (.bipush 32, 2) := by decide +kernel
theorem dX8_made_81 : decode cX8_made 81 = .ok (.isub, 1) := by decide +kernel
theorem dX8_made_82 : decode cX8_made 82 = .ok (.ishr, 1) := by decide +kernel
theorem dX8_made_83 : decode cX8_made 83 = .ok (.ireturn, 1) := by decide +kernel
theorem dX8_faultOf_0 : decode cX8_faultOf 0 = .ok (.iload_n 2, 1) := by decide +kernel
theorem dX8_faultOf_1 : decode cX8_faultOf 1 = .ok (.ifCond .eq 9, 3) := by decide +kernel
theorem dX8_faultOf_4 : decode cX8_faultOf 4 = .ok (.iload_n 2, 1) := by decide +kernel
theorem dX8_faultOf_5 : decode cX8_faultOf 5 = .ok (.bipush 29, 2) := by decide +kernel
theorem dX8_faultOf_7 : decode cX8_faultOf 7 = .ok (.if_icmp .le 6, 3) := by decide +kernel
theorem dX8_faultOf_10 : decode cX8_faultOf 10 = .ok (.bipush 18, 2) := by decide +kernel
theorem dX8_faultOf_12 : decode cX8_faultOf 12 = .ok (.ireturn, 1) := by decide +kernel
theorem dX8_faultOf_13 : decode cX8_faultOf 13 = .ok (.iload_n 2, 1) := by decide +kernel
theorem dX8_faultOf_14 : decode cX8_faultOf 14 = .ok (.iconst 5, 1) := by decide +kernel
theorem dX8_faultOf_15 : decode cX8_faultOf 15 = .ok (.if_icmp .ne 18, 3) := by decide +kernel
theorem dX8_faultOf_18 : decode cX8_faultOf 18 = .ok (.aload_n 1, 1) := by decide +kernel
theorem dX8_faultOf_19 : decode cX8_faultOf 19 = .ok (.iconst 0, 1) := by decide +kernel
theorem dX8_faultOf_20 : decode cX8_faultOf 20 = .ok (.iload 4, 2) := by decide +kernel
theorem dX8_faultOf_22 : decode cX8_faultOf 22 = .ok (.bipush 7, 2) := by decide +kernel
theorem dX8_faultOf_24 : decode cX8_faultOf 24 = .ok (.iand, 1) := by decide +kernel
theorem dX8_faultOf_25 : decode cX8_faultOf 25 = .ok (.iadd, 1) := by decide +kernel
theorem dX8_faultOf_26 : decode cX8_faultOf 26 = .ok (.iaload, 1) := by decide +kernel
theorem dX8_faultOf_27 : decode cX8_faultOf 27 = .ok (.ifCond .ne 6, 3) := by decide +kernel
theorem dX8_faultOf_30 : decode cX8_faultOf 30 = .ok (.bipush 18, 2) := by decide +kernel
theorem dX8_faultOf_32 : decode cX8_faultOf 32 = .ok (.ireturn, 1) := by decide +kernel
theorem dX8_faultOf_33 : decode cX8_faultOf 33 = .ok (.iload_n 2, 1) := by decide +kernel
theorem dX8_faultOf_34 : decode cX8_faultOf 34 = .ok (.bipush 9, 2) := by decide +kernel
theorem dX8_faultOf_36 : decode cX8_faultOf 36 = .ok (.if_icmp .ne 15, 3) := by decide +kernel
theorem dX8_faultOf_39 : decode cX8_faultOf 39 = .ok (.aload_n 1, 1) := by decide +kernel
theorem dX8_faultOf_40 : decode cX8_faultOf 40 = .ok (.bipush 15, 2) := by decide +kernel
theorem dX8_faultOf_42 : decode cX8_faultOf 42 = .ok (.iaload, 1) := by decide +kernel
theorem dX8_faultOf_43 : decode cX8_faultOf 43 = .ok (.bipush 96, 2) := by decide +kernel
theorem dX8_faultOf_45 : decode cX8_faultOf 45 = .ok (.if_icmp .ne 6, 3) := by decide +kernel
theorem dX8_faultOf_48 : decode cX8_faultOf 48 = .ok (.bipush 19, 2) := by decide +kernel
theorem dX8_faultOf_50 : decode cX8_faultOf 50 = .ok (.ireturn, 1) := by decide +kernel
theorem dX8_faultOf_51 : decode cX8_faultOf 51 = .ok (.iload_n 2, 1) := by decide +kernel
theorem dX8_faultOf_52 : decode cX8_faultOf 52 = .ok (.bipush 10, 2) := by decide +kernel
theorem dX8_faultOf_54 : decode cX8_faultOf 54 = .ok (.if_icmp .ne 13, 3) := by decide +kernel
theorem dX8_faultOf_57 : decode cX8_faultOf 57 = .ok (.aload_n 1, 1) := by decide +kernel
theorem dX8_faultOf_58 : decode cX8_faultOf 58 = .ok (.bipush 15, 2) := by decide +kernel
theorem dX8_faultOf_60 : decode cX8_faultOf 60 = .ok (.iaload, 1) := by decide +kernel
theorem dX8_faultOf_61 : decode cX8_faultOf 61 = .ok (.ifCond .ne 6, 3) := by decide +kernel
theorem dX8_faultOf_64 : decode cX8_faultOf 64 = .ok (.bipush 19, 2) := by decide +kernel
theorem dX8_faultOf_66 : decode cX8_faultOf 66 = .ok (.ireturn, 1) := by decide +kernel
theorem dX8_faultOf_67 : decode cX8_faultOf 67 = .ok (.iload_n 2, 1) := by decide +kernel
theorem dX8_faultOf_68 : decode cX8_faultOf 68 = .ok (.bipush 18, 2) := by decide +kernel
theorem dX8_faultOf_70 : decode cX8_faultOf 70 = .ok (.if_icmp .ne 13, 3) := by decide +kernel
theorem dX8_faultOf_73 : decode cX8_faultOf 73 = .ok (.aload_n 1, 1) := by decide +kernel
theorem dX8_faultOf_74 : decode cX8_faultOf 74 = .ok (.bipush 30, 2) := by decide +kernel
theorem dX8_faultOf_76 : decode cX8_faultOf 76 = .ok (.iaload, 1) := by decide +kernel
theorem dX8_faultOf_77 : decode cX8_faultOf 77 = .ok (.ifCond .ne 6, 3) := by decide +kernel
theorem dX8_faultOf_80 : decode cX8_faultOf 80 = .ok (.bipush 18, 2) := by decide +kernel
theorem dX8_faultOf_82 : decode cX8_faultOf 82 = .ok (.ireturn, 1) := by decide +kernel
theorem dX8_faultOf_83 : decode cX8_faultOf 83 = .ok (.iload_n 2, 1) := by decide +kernel
theorem dX8_faultOf_84 : decode cX8_faultOf 84 = .ok (.bipush 21, 2) := by decide +kernel
theorem dX8_faultOf_86 : decode cX8_faultOf 86 = .ok (.if_icmp .ne 32, 3) := by decide +kernel
theorem dX8_faultOf_89 : decode cX8_faultOf 89 = .ok (.aload_n 1, 1) := by decide +kernel
theorem dX8_faultOf_90 : decode cX8_faultOf 90 = .ok (.bipush 8, 2) := by decide +kernel
theorem dX8_faultOf_92 : decode cX8_faultOf 92 = .ok (.iload_n 3, 1) := by decide +kernel
theorem dX8_faultOf_93 : decode cX8_faultOf 93 = .ok (.iconst 3, 1) := by decide +kernel
theorem dX8_faultOf_94 : decode cX8_faultOf 94 = .ok (.iand, 1) := by decide +kernel
theorem dX8_faultOf_95 : decode cX8_faultOf 95 = .ok (.iadd, 1) := by decide +kernel
theorem dX8_faultOf_96 : decode cX8_faultOf 96 = .ok (.iaload, 1) := by decide +kernel
theorem dX8_faultOf_97 : decode cX8_faultOf 97 = .ok (.aload_n 1, 1) := by decide +kernel
theorem dX8_faultOf_98 : decode cX8_faultOf 98 = .ok (.bipush 8, 2) := by decide +kernel
theorem dX8_faultOf_100 : decode cX8_faultOf 100 = .ok (.iload 4, 2) := by decide +kernel
theorem dX8_faultOf_102 : decode cX8_faultOf 102 = .ok (.iconst 3, 1) := by decide +kernel
theorem dX8_faultOf_103 : decode cX8_faultOf 103 = .ok (.iand, 1) := by decide +kernel
theorem dX8_faultOf_104 : decode cX8_faultOf 104 = .ok (.iadd, 1) := by decide +kernel
theorem dX8_faultOf_105 : decode cX8_faultOf 105 = .ok (.iaload, 1) := by decide +kernel
theorem dX8_faultOf_106 : decode cX8_faultOf 106 = .ok (.invokestatic 209, 3) := by decide +kernel
theorem dX8_faultOf_109 : decode cX8_faultOf 109 = .ok (.invokestatic 205, 3) := by decide +kernel
theorem dX8_faultOf_112 : decode cX8_faultOf 112 = .ok (.ifCond .ne 6, 3) := by decide +kernel
theorem dX8_faultOf_115 : decode cX8_faultOf 115 = .ok (.bipush 18, 2) := by decide +kernel
theorem dX8_faultOf_117 : decode cX8_faultOf 117 = .ok (.ireturn, 1) := by decide +kernel
theorem dX8_faultOf_118 : decode cX8_faultOf 118 = .ok (.iload_n 2, 1) := by decide +kernel
theorem dX8_faultOf_119 : decode cX8_faultOf 119 = .ok (.bipush 22, 2) := by decide +kernel
theorem dX8_faultOf_121 : decode cX8_faultOf 121 = .ok (.if_icmp .ne 32, 3) := by decide +kernel
theorem dX8_faultOf_124 : decode cX8_faultOf 124 = .ok (.aload_n 1, 1) := by decide +kernel
theorem dX8_faultOf_125 : decode cX8_faultOf 125 = .ok (.bipush 8, 2) := by decide +kernel
theorem dX8_faultOf_127 : decode cX8_faultOf 127 = .ok (.iload_n 3, 1) := by decide +kernel
theorem dX8_faultOf_128 : decode cX8_faultOf 128 = .ok (.iconst 3, 1) := by decide +kernel
theorem dX8_faultOf_129 : decode cX8_faultOf 129 = .ok (.iand, 1) := by decide +kernel
theorem dX8_faultOf_130 : decode cX8_faultOf 130 = .ok (.iadd, 1) := by decide +kernel
theorem dX8_faultOf_131 : decode cX8_faultOf 131 = .ok (.iaload, 1) := by decide +kernel
theorem dX8_faultOf_132 : decode cX8_faultOf 132 = .ok (.aload_n 1, 1) := by decide +kernel
theorem dX8_faultOf_133 : decode cX8_faultOf 133 = .ok (.bipush 8, 2) := by decide +kernel
theorem dX8_faultOf_135 : decode cX8_faultOf 135 = .ok (.iload 4, 2) := by decide +kernel
theorem dX8_faultOf_137 : decode cX8_faultOf 137 = .ok (.iconst 3, 1) := by decide +kernel
theorem dX8_faultOf_138 : decode cX8_faultOf 138 = .ok (.iand, 1) := by decide +kernel
theorem dX8_faultOf_139 : decode cX8_faultOf 139 = .ok (.iadd, 1) := by decide +kernel
theorem dX8_faultOf_140 : decode cX8_faultOf 140 = .ok (.iaload, 1) := by decide +kernel
theorem dX8_faultOf_141 : decode cX8_faultOf 141 = .ok (.invokestatic 213, 3) := by decide +kernel
theorem dX8_faultOf_144 : decode cX8_faultOf 144 = .ok (.invokestatic 205, 3) := by decide +kernel
theorem dX8_faultOf_147 : decode cX8_faultOf 147 = .ok (.ifCond .ne 6, 3) := by decide +kernel
theorem dX8_faultOf_150 : decode cX8_faultOf 150 = .ok (.bipush 18, 2) := by decide +kernel
theorem dX8_faultOf_152 : decode cX8_faultOf 152 = .ok (.ireturn, 1) := by decide +kernel
theorem dX8_faultOf_153 : decode cX8_faultOf 153 = .ok (.iload_n 2, 1) := by decide +kernel
theorem dX8_faultOf_154 : decode cX8_faultOf 154 = .ok (.bipush 25, 2) := by decide +kernel
theorem dX8_faultOf_156 : decode cX8_faultOf 156 = .ok (.if_icmp .ne 20, 3) := by decide +kernel
theorem dX8_faultOf_159 : decode cX8_faultOf 159 = .ok (.aload_n 1, 1) := by decide +kernel
theorem dX8_faultOf_160 : decode cX8_faultOf 160 = .ok (.sipush 300, 3) := by decide +kernel
theorem dX8_faultOf_163 : decode cX8_faultOf 163 = .ok (.iload_n 3, 1) := by decide +kernel
theorem dX8_faultOf_164 : decode cX8_faultOf 164 = .ok (.bipush 20, 2) := by decide +kernel
theorem dX8_faultOf_166 : decode cX8_faultOf 166 = .ok (.irem, 1) := by decide +kernel
theorem dX8_faultOf_167 : decode cX8_faultOf 167 = .ok (.iadd, 1) := by decide +kernel
theorem dX8_faultOf_168 : decode cX8_faultOf 168 = .ok (.iaload, 1) := by decide +kernel
theorem dX8_faultOf_169 : decode cX8_faultOf 169 = .ok (.iconst 1, 1) := by decide +kernel
theorem dX8_faultOf_170 : decode cX8_faultOf 170 = .ok (.if_icmp .ne 6, 3) := by decide +kernel
theorem dX8_faultOf_173 : decode cX8_faultOf 173 = .ok (.bipush 18, 2) := by decide +kernel
theorem dX8_faultOf_175 : decode cX8_faultOf 175 = .ok (.ireturn, 1) := by decide +kernel
theorem dX8_faultOf_176 : decode cX8_faultOf 176 = .ok (.iload_n 2, 1) := by decide +kernel
theorem dX8_faultOf_177 : decode cX8_faultOf 177 = .ok (.bipush 26, 2) := by decide +kernel
theorem dX8_faultOf_179 : decode cX8_faultOf 179 = .ok (.if_icmp .ne 14, 3) := by decide +kernel
theorem dX8_faultOf_182 : decode cX8_faultOf 182 = .ok (.aload_n 1, 1) := by decide +kernel
theorem dX8_faultOf_183 : decode cX8_faultOf 183 = .ok (.bipush 15, 2) := by decide +kernel
theorem dX8_faultOf_185 : decode cX8_faultOf 185 = .ok (.iaload, 1) := by decide +kernel
theorem dX8_faultOf_186 : decode cX8_faultOf 186 = .ok (.iconst 2, 1) := by decide +kernel
theorem dX8_faultOf_187 : decode cX8_faultOf 187 = .ok (.if_icmp .ge 6, 3) := by decide +kernel
theorem dX8_faultOf_190 : decode cX8_faultOf 190 = .ok (.bipush 19, 2) := by decide +kernel
theorem dX8_faultOf_192 : decode cX8_faultOf 192 = .ok (.ireturn, 1) := by decide +kernel
theorem dX8_faultOf_193 : decode cX8_faultOf 193 = .ok (.iconst (-1), 1) := by decide +kernel
theorem dX8_faultOf_194 : decode cX8_faultOf 194 = .ok (.ireturn, 1) := by decide +kernel
theorem dX8_instructs_0 : decode cX8_instructs 0 = .ok (.aload_n 1, 1) := by decide +kernel
theorem dX8_instructs_1 : decode cX8_instructs 1 = .ok (.bipush 12, 2) := by decide +kernel
theorem dX8_instructs_3 : decode cX8_instructs 3 = .ok (.iaload, 1) := by decide +kernel
theorem dX8_instructs_4 : decode cX8_instructs 4 = .ok (.istore_n 2, 1) := by decide +kernel
theorem dX8_instructs_5 : decode cX8_instructs 5 = .ok (.aload_n 0, 1) := by decide +kernel
theorem dX8_instructs_6 : decode cX8_instructs 6 = .ok (.getfield 7, 3) := by decide +kernel
theorem dX8_instructs_9 : decode cX8_instructs 9 = .ok (.iload_n 2, 1) := by decide +kernel
theorem dX8_instructs_10 : decode cX8_instructs 10 = .ok (.iaload, 1) := by decide +kernel
theorem dX8_instructs_11 : decode cX8_instructs 11 = .ok (.istore_n 3, 1) := by decide +kernel
theorem dX8_instructs_12 : decode cX8_instructs 12 = .ok (.aload_n 0, 1) := by decide +kernel
theorem dX8_instructs_13 : decode cX8_instructs 13 = .ok (.getfield 7, 3) := by decide +kernel
theorem dX8_instructs_16 : decode cX8_instructs 16 = .ok (.iload_n 2, 1) := by decide +kernel
theorem dX8_instructs_17 : decode cX8_instructs 17 = .ok (.iconst 1, 1) := by decide +kernel
theorem dX8_instructs_18 : decode cX8_instructs 18 = .ok (.iadd, 1) := by decide +kernel
theorem dX8_instructs_19 : decode cX8_instructs 19 = .ok (.sipush 512, 3) := by decide +kernel
theorem dX8_instructs_22 : decode cX8_instructs 22 = .ok (.irem, 1) := by decide +kernel
theorem dX8_instructs_23 : decode cX8_instructs 23 = .ok (.iaload, 1) := by decide +kernel
theorem dX8_instructs_24 : decode cX8_instructs 24 = .ok (.istore 4, 2) := by decide +kernel
theorem dX8_instructs_26 : decode cX8_instructs 26 = .ok (.aload_n 0, 1) := by decide +kernel
theorem dX8_instructs_27 : decode cX8_instructs 27 = .ok (.getfield 7, 3) := by decide +kernel
theorem dX8_instructs_30 : decode cX8_instructs 30 = .ok (.iload_n 2, 1) := by decide +kernel
theorem dX8_instructs_31 : decode cX8_instructs 31 = .ok (.iconst 2, 1) := by decide +kernel
theorem dX8_instructs_32 : decode cX8_instructs 32 = .ok (.iadd, 1) := by decide +kernel
theorem dX8_instructs_33 : decode cX8_instructs 33 = .ok (.sipush 512, 3) := by decide +kernel
theorem dX8_instructs_36 : decode cX8_instructs 36 = .ok (.irem, 1) := by decide +kernel
theorem dX8_instructs_37 : decode cX8_instructs 37 = .ok (.iaload, 1) := by decide +kernel
theorem dX8_instructs_38 : decode cX8_instructs 38 = .ok (.istore 5, 2) := by decide +kernel
theorem dX8_instructs_40 : decode cX8_instructs 40 = .ok (.iload_n 3, 1) := by decide +kernel
theorem dX8_instructs_41 : decode cX8_instructs 41 = .ok (.bipush 20, 2) := by decide +kernel
theorem dX8_instructs_43 : decode cX8_instructs 43 = .ok (.if_icmp .lt 29, 3) := by decide +kernel
theorem dX8_instructs_46 : decode cX8_instructs 46 = .ok (.iload_n 3, 1) := by decide +kernel
theorem dX8_instructs_47 : decode cX8_instructs 47 = .ok (.bipush 24, 2) := by decide +kernel
theorem dX8_instructs_49 : decode cX8_instructs 49 = .ok (.if_icmp .gt 23, 3) := by decide +kernel
theorem dX8_instructs_52 : decode cX8_instructs 52 = .ok (.aload_n 1, 1) := by decide +kernel
theorem dX8_instructs_53 : decode cX8_instructs 53 = .ok (.bipush 19, 2) := by decide +kernel
theorem dX8_instructs_55 : decode cX8_instructs 55 = .ok (.iaload, 1) := by decide +kernel
theorem dX8_instructs_56 : decode cX8_instructs 56 = .ok (.ifCond .lt 16, 3) := by decide +kernel
theorem dX8_instructs_59 : decode cX8_instructs 59 = .ok (.aload_n 0, 1) := by decide +kernel
theorem dX8_instructs_60 : decode cX8_instructs 60 = .ok (.aload_n 1, 1) := by decide +kernel
theorem dX8_instructs_61 : decode cX8_instructs 61 = .ok (.iconst 4, 1) := by decide +kernel
theorem dX8_instructs_62 : decode cX8_instructs 62 = .ok (.iconst 0, 1) := by decide +kernel
theorem dX8_instructs_63 : decode cX8_instructs 63 = .ok (.invokevirtual 173, 3) := by decide +kernel
theorem dX8_instructs_66 : decode cX8_instructs 66 = .ok (.aload_n 0, 1) := by decide +kernel
theorem dX8_instructs_67 : decode cX8_instructs 67 = .ok (.aload_n 1, 1) := by decide +kernel
theorem dX8_instructs_68 : decode cX8_instructs 68 = .ok (.invokevirtual 167, 3) := by decide +kernel
theorem dX8_instructs_71 : decode cX8_instructs 71 = .ok (.return_, 1) := by decide +kernel
theorem dX8_instructs_72 : decode cX8_instructs 72 = .ok (.aload_n 0, 1) := by decide +kernel
theorem dX8_instructs_73 : decode cX8_instructs 73 = .ok (.aload_n 1, 1) := by decide +kernel
theorem dX8_instructs_74 : decode cX8_instructs 74 = .ok (.iload_n 3, 1) := by decide +kernel
theorem dX8_instructs_75 : decode cX8_instructs 75 = .ok (.iload 4, 2) := by decide +kernel
theorem dX8_instructs_77 : decode cX8_instructs 77 = .ok (.iload 5, 2) := by decide +kernel
theorem dX8_instructs_79 : decode cX8_instructs 79 = .ok (.invokevirtual 216, 3) := by decide +kernel
theorem dX8_instructs_82 : decode cX8_instructs 82 = .ok (.istore 6, 2) := by decide +kernel
theorem dX8_instructs_84 : decode cX8_instructs 84 = .ok (.iload 6, 2) := by decide +kernel
theorem dX8_instructs_86 : decode cX8_instructs 86 = .ok (.ifCond .lt 12, 3) := by decide +kernel
theorem dX8_instructs_89 : decode cX8_instructs 89 = .ok (.aload_n 0, 1) := by decide +kernel
theorem dX8_instructs_90 : decode cX8_instructs 90 = .ok (.aload_n 1, 1) := by decide +kernel
theorem dX8_instructs_91 : decode cX8_instructs 91 = .ok (.iload 6, 2) := by decide +kernel
theorem dX8_instructs_93 : decode cX8_instructs 93 = .ok (.invokevirtual 180, 3) := by decide +kernel
theorem dX8_instructs_96 : decode cX8_instructs 96 = .ok (.pop, 1) := by decide +kernel
theorem dX8_instructs_97 : decode cX8_instructs 97 = .ok (.return_, 1) := by decide +kernel
theorem dX8_instructs_98 : decode cX8_instructs 98 = .ok (.aload_n 0, 1) := by decide +kernel
theorem dX8_instructs_99 : decode cX8_instructs 99 = .ok (.bipush 10, 2) := by decide +kernel
theorem dX8_instructs_101 : decode cX8_instructs 101 = .ok (.invokevirtual 131, 3) := by decide +kernel
theorem dX8_instructs_104 : decode cX8_instructs 104 = .ok (.aload_n 1, 1) := by decide +kernel
theorem dX8_instructs_105 : decode cX8_instructs 105 = .ok (.bipush 22, 2) := by decide +kernel
theorem dX8_instructs_107 : decode cX8_instructs 107 = .ok (.getstatic 220, 3) := by decide +kernel
theorem dX8_instructs_110 : decode cX8_instructs 110 = .ok (.iload_n 3, 1) := by decide +kernel
theorem dX8_instructs_111 : decode cX8_instructs 111 = .ok (.iaload, 1) := by decide +kernel
theorem dX8_instructs_112 : decode cX8_instructs 112 = .ok (.iconst 1, 1) := by decide +kernel
theorem dX8_instructs_113 : decode cX8_instructs 113 = .ok (.isub, 1) := by decide +kernel
theorem dX8_instructs_114 : decode cX8_instructs 114 = .ok (.iastore, 1) := by decide +kernel
theorem dX8_instructs_115 : decode cX8_instructs 115 = .ok (.aload_n 1, 1) := by decide +kernel
theorem dX8_instructs_116 : decode cX8_instructs 116 = .ok (.bipush 12, 2) := by decide +kernel
theorem dX8_instructs_118 : decode cX8_instructs 118 = .ok (.iload_n 2, 1) := by decide +kernel
theorem dX8_instructs_119 : decode cX8_instructs 119 = .ok (.getstatic 223, 3) := by decide +kernel
theorem dX8_instructs_122 : decode cX8_instructs 122 = .ok (.iload_n 3, 1) := by decide +kernel
theorem dX8_instructs_123 : decode cX8_instructs 123 = .ok (.iaload, 1) := by decide +kernel
theorem dX8_instructs_124 : decode cX8_instructs 124 = .ok (.iadd, 1) := by decide +kernel
theorem dX8_instructs_125 : decode cX8_instructs 125 = .ok (.sipush 512, 3) := by decide +kernel
theorem dX8_instructs_128 : decode cX8_instructs 128 = .ok (.irem, 1) := by decide +kernel
theorem dX8_instructs_129 : decode cX8_instructs 129 = .ok (.iastore, 1) := by decide +kernel
theorem dX8_instructs_130 : decode cX8_instructs 130 = .ok (.iconst 0, 1) := by decide +kernel
theorem dX8_instructs_131 : decode cX8_instructs 131 = .ok (.iload 4, 2) := by decide +kernel
theorem dX8_instructs_133 : decode cX8_instructs 133 = .ok (.bipush 7, 2) := by decide +kernel
theorem dX8_instructs_135 : decode cX8_instructs 135 = .ok (.iand, 1) := by decide +kernel
theorem dX8_instructs_136 : decode cX8_instructs 136 = .ok (.iadd, 1) := by decide +kernel
theorem dX8_instructs_137 : decode cX8_instructs 137 = .ok (.istore 7, 2) := by decide +kernel
theorem dX8_instructs_139 : decode cX8_instructs 139 = .ok (.iconst 0, 1) := by decide +kernel
theorem dX8_instructs_140 : decode cX8_instructs 140 = .ok (.iload 5, 2) := by decide +kernel
theorem dX8_instructs_142 : decode cX8_instructs 142 = .ok (.bipush 7, 2) := by decide +kernel
theorem dX8_instructs_144 : decode cX8_instructs 144 = .ok (.iand, 1) := by decide +kernel
theorem dX8_instructs_145 : decode cX8_instructs 145 = .ok (.iadd, 1) := by decide +kernel
theorem dX8_instructs_146 : decode cX8_instructs 146 = .ok (.istore 8, 2) := by decide +kernel
theorem dX8_instructs_148 : decode cX8_instructs 148 = .ok (.iload_n 3, 1) := by decide +kernel
theorem dX8_instructs_149 : decode cX8_instructs 149 = .ok (.iconst 1, 1) := by decide +kernel
theorem dX8_instructs_150 : decode cX8_instructs 150 = .ok (.if_icmp .ne 12, 3) := by decide +kernel
theorem dX8_instructs_153 : decode cX8_instructs 153 = .ok (.aload_n 1, 1) := by decide +kernel
theorem dX8_instructs_154 : decode cX8_instructs 154 = .ok (.iload 7, 2) := by decide +kernel
theorem dX8_instructs_156 : decode cX8_instructs 156 = .ok (.iload 5, 2) := by decide +kernel
theorem dX8_instructs_158 : decode cX8_instructs 158 = .ok (.iastore, 1) := by decide +kernel
theorem dX8_instructs_159 : decode cX8_instructs 159 = .ok (.goto 253, 3) := by decide +kernel
theorem dX8_instructs_162 : decode cX8_instructs 162 = .ok (.iload_n 3, 1) := by decide +kernel
theorem dX8_instructs_163 : decode cX8_instructs 163 = .ok (.bipush 8, 2) := by decide +kernel
theorem dX8_instructs_165 : decode cX8_instructs 165 = .ok (.if_icmp .ge 30, 3) := by decide +kernel
theorem dX8_instructs_168 : decode cX8_instructs 168 = .ok (.aload_n 0, 1) := by decide +kernel
theorem dX8_instructs_169 : decode cX8_instructs 169 = .ok (.aload_n 1, 1) := by decide +kernel
theorem dX8_instructs_170 : decode cX8_instructs 170 = .ok (.iload 4, 2) := by decide +kernel
theorem dX8_instructs_172 : decode cX8_instructs 172 = .ok (.bipush 7, 2) := by decide +kernel
theorem dX8_instructs_174 : decode cX8_instructs 174 = .ok (.iand, 1) := by decide +kernel
theorem dX8_instructs_175 : decode cX8_instructs 175 = .ok (.iload_n 3, 1) := by decide +kernel
theorem dX8_instructs_176 : decode cX8_instructs 176 = .ok (.aload_n 1, 1) := by decide +kernel
theorem dX8_instructs_177 : decode cX8_instructs 177 = .ok (.iload 7, 2) := by decide +kernel
theorem dX8_instructs_179 : decode cX8_instructs 179 = .ok (.iaload, 1) := by decide +kernel
theorem dX8_instructs_180 : decode cX8_instructs 180 = .ok (.aload_n 1, 1) := by decide +kernel
theorem dX8_instructs_181 : decode cX8_instructs 181 = .ok (.iload 8, 2) := by decide +kernel
theorem dX8_instructs_183 : decode cX8_instructs 183 = .ok (.iaload, 1) := by decide +kernel
theorem dX8_instructs_184 : decode cX8_instructs 184 = .ok (.iload 5, 2) := by decide +kernel
theorem dX8_instructs_186 : decode cX8_instructs 186 = .ok (.invokestatic 226, 3) := by decide +kernel
theorem dX8_instructs_189 : decode cX8_instructs 189 = .ok (.invokevirtual 230, 3) := by decide +kernel
theorem dX8_instructs_192 : decode cX8_instructs 192 = .ok (.goto 220, 3) := by decide +kernel
theorem dX8_instructs_195 : decode cX8_instructs 195 = .ok (.iload_n 3, 1) := by decide +kernel
theorem dX8_instructs_196 : decode cX8_instructs 196 = .ok (.bipush 8, 2) := by decide +kernel
theorem dX8_instructs_198 : decode cX8_instructs 198 = .ok (.if_icmp .ne 14, 3) := by decide +kernel
theorem dX8_instructs_201 : decode cX8_instructs 201 = .ok (.aload_n 1, 1) := by decide +kernel
theorem dX8_instructs_202 : decode cX8_instructs 202 = .ok (.iload 7, 2) := by decide +kernel
theorem dX8_instructs_204 : decode cX8_instructs 204 = .ok (.aload_n 1, 1) := by decide +kernel
theorem dX8_instructs_205 : decode cX8_instructs 205 = .ok (.iload 8, 2) := by decide +kernel
theorem dX8_instructs_207 : decode cX8_instructs 207 = .ok (.iaload, 1) := by decide +kernel
theorem dX8_instructs_208 : decode cX8_instructs 208 = .ok (.iastore, 1) := by decide +kernel
theorem dX8_instructs_209 : decode cX8_instructs 209 = .ok (.goto 203, 3) := by decide +kernel
theorem dX8_instructs_212 : decode cX8_instructs 212 = .ok (.iload_n 3, 1) := by decide +kernel
theorem dX8_instructs_213 : decode cX8_instructs 213 = .ok (.bipush 14, 2) := by decide +kernel
theorem dX8_instructs_215 : decode cX8_instructs 215 = .ok (.if_icmp .ge 27, 3) := by decide +kernel
theorem dX8_instructs_218 : decode cX8_instructs 218 = .ok (.aload_n 0, 1) := by decide +kernel
theorem dX8_instructs_219 : decode cX8_instructs 219 = .ok (.aload_n 1, 1) := by decide +kernel
theorem dX8_instructs_220 : decode cX8_instructs 220 = .ok (.iload_n 3, 1) := by decide +kernel
theorem dX8_instructs_221 : decode cX8_instructs 221 = .ok (.iload 7, 2) := by decide +kernel
theorem dX8_instructs_223 : decode cX8_instructs 223 = .ok (.sipush 256, 3) := by decide +kernel
theorem dX8_instructs_226 : decode cX8_instructs 226 = .ok (.iload 4, 2) := by decide +kernel
theorem dX8_instructs_228 : decode cX8_instructs 228 = .ok (.imul, 1) := by decide +kernel
theorem dX8_instructs_229 : decode cX8_instructs 229 = .ok (.iload 5, 2) := by decide +kernel
theorem dX8_instructs_231 : decode cX8_instructs 231 = .ok (.iadd, 1) := by decide +kernel
theorem dX8_instructs_232 : decode cX8_instructs 232 = .ok (.sipush 512, 3) := by decide +kernel
theorem dX8_instructs_235 : decode cX8_instructs 235 = .ok (.irem, 1) := by decide +kernel
theorem dX8_instructs_236 : decode cX8_instructs 236 = .ok (.invokevirtual 233, 3) := by decide +kernel
theorem dX8_instructs_239 : decode cX8_instructs 239 = .ok (.goto 173, 3) := by decide +kernel
theorem dX8_instructs_242 : decode cX8_instructs 242 = .ok (.iload_n 3, 1) := by decide +kernel
theorem dX8_instructs_243 : decode cX8_instructs 243 = .ok (.bipush 20, 2) := by decide +kernel
theorem dX8_instructs_245 : decode cX8_instructs 245 = .ok (.if_icmp .ge 14, 3) := by decide +kernel
theorem dX8_instructs_248 : decode cX8_instructs 248 = .ok (.aload_n 0, 1) := by decide +kernel
theorem dX8_instructs_249 : decode cX8_instructs 249 = .ok (.aload_n 1, 1) := by decide +kernel
theorem dX8_instructs_250 : decode cX8_instructs 250 = .ok (.iload_n 3, 1) := by decide +kernel
theorem dX8_instructs_251 : decode cX8_instructs 251 = .ok (.iload 4, 2) := by decide +kernel
theorem dX8_instructs_253 : decode cX8_instructs 253 = .ok (.invokevirtual 237, 3) := by decide +kernel
theorem dX8_instructs_256 : decode cX8_instructs 256 = .ok (.goto 156, 3) := by decide +kernel
theorem dX8_instructs_259 : decode cX8_instructs 259 = .ok (.iload_n 3, 1) := by decide +kernel
theorem dX8_instructs_260 : decode cX8_instructs 260 = .ok (.bipush 25, 2) := by decide +kernel
theorem dX8_instructs_262 : decode cX8_instructs 262 = .ok (.if_icmp .ge 26, 3) := by decide +kernel
theorem dX8_instructs_265 : decode cX8_instructs 265 = .ok (.aload_n 0, 1) := by decide +kernel
theorem dX8_instructs_266 : decode cX8_instructs 266 = .ok (.aload_n 1, 1) := by decide +kernel
theorem dX8_instructs_267 : decode cX8_instructs 267 = .ok (.iload_n 3, 1) := by decide +kernel
theorem dX8_instructs_268 : decode cX8_instructs 268 = .ok (.iload 4, 2) := by decide +kernel
theorem dX8_instructs_270 : decode cX8_instructs 270 = .ok (.iconst 3, 1) := by decide +kernel
theorem dX8_instructs_271 : decode cX8_instructs 271 = .ok (.iand, 1) := by decide +kernel
theorem dX8_instructs_272 : decode cX8_instructs 272 = .ok (.iload 5, 2) := by decide +kernel
theorem dX8_instructs_274 : decode cX8_instructs 274 = .ok (.iconst 3, 1) := by decide +kernel
theorem dX8_instructs_275 : decode cX8_instructs 275 = .ok (.iand, 1) := by decide +kernel
theorem dX8_instructs_276 : decode cX8_instructs 276 = .ok (.iload 7, 2) := by decide +kernel
theorem dX8_instructs_278 : decode cX8_instructs 278 = .ok (.iload 8, 2) := by decide +kernel
theorem dX8_instructs_280 : decode cX8_instructs 280 = .ok (.iload 5, 2) := by decide +kernel
theorem dX8_instructs_282 : decode cX8_instructs 282 = .ok (.invokevirtual 240, 3) := by decide +kernel
theorem dX8_instructs_285 : decode cX8_instructs 285 = .ok (.goto 127, 3) := by decide +kernel
theorem dX8_instructs_288 : decode cX8_instructs 288 = .ok (.iload_n 3, 1) := by decide +kernel
theorem dX8_instructs_289 : decode cX8_instructs 289 = .ok (.bipush 25, 2) := by decide +kernel
theorem dX8_instructs_291 : decode cX8_instructs 291 = .ok (.if_icmp .ne 27, 3) := by decide +kernel
theorem dX8_instructs_294 : decode cX8_instructs 294 = .ok (.aload_n 1, 1) := by decide +kernel
theorem dX8_instructs_295 : decode cX8_instructs 295 = .ok (.sipush 173, 3) := by decide +kernel
theorem dX8_instructs_298 : decode cX8_instructs 298 = .ok (.iload 4, 2) := by decide +kernel
theorem dX8_instructs_300 : decode cX8_instructs 300 = .ok (.bipush 20, 2) := by decide +kernel
theorem dX8_instructs_302 : decode cX8_instructs 302 = .ok (.irem, 1) := by decide +kernel
theorem dX8_instructs_303 : decode cX8_instructs 303 = .ok (.iadd, 1) := by decide +kernel
theorem dX8_instructs_304 : decode cX8_instructs 304 = .ok (.aload_n 1, 1) := by decide +kernel
theorem dX8_instructs_305 : decode cX8_instructs 305 = .ok (.iload 8, 2) := by decide +kernel
theorem dX8_instructs_307 : decode cX8_instructs 307 = .ok (.iaload, 1) := by decide +kernel
theorem dX8_instructs_308 : decode cX8_instructs 308 = .ok (.sipush 256, 3) := by decide +kernel
theorem dX8_instructs_311 : decode cX8_instructs 311 = .ok (.invokestatic 244, 3) := by decide +kernel
theorem dX8_instructs_314 : decode cX8_instructs 314 = .ok (.iastore, 1) := by decide +kernel
theorem dX8_instructs_315 : decode cX8_instructs 315 = .ok (.goto 97, 3) := by decide +kernel
theorem dX8_instructs_318 : decode cX8_instructs 318 = .ok (.iload_n 3, 1) := by decide +kernel
theorem dX8_instructs_319 : decode cX8_instructs 319 = .ok (.bipush 26, 2) := by decide +kernel
theorem dX8_instructs_321 : decode cX8_instructs 321 = .ok (.if_icmp .ne 37, 3) := by decide +kernel
theorem dX8_instructs_324 : decode cX8_instructs 324 = .ok (.aload_n 1, 1) := by decide +kernel
theorem dX8_instructs_325 : decode cX8_instructs 325 = .ok (.bipush 56, 2) := by decide +kernel
theorem dX8_instructs_327 : decode cX8_instructs 327 = .ok (.aload_n 1, 1) := by decide +kernel
theorem dX8_instructs_328 : decode cX8_instructs 328 = .ok (.bipush 15, 2) := by decide +kernel
theorem dX8_instructs_330 : decode cX8_instructs 330 = .ok (.iaload, 1) := by decide +kernel
theorem dX8_instructs_331 : decode cX8_instructs 331 = .ok (.iadd, 1) := by decide +kernel
theorem dX8_instructs_332 : decode cX8_instructs 332 = .ok (.iconst 2, 1) := by decide +kernel
theorem dX8_instructs_333 : decode cX8_instructs 333 = .ok (.isub, 1) := by decide +kernel
theorem dX8_instructs_334 : decode cX8_instructs 334 = .ok (.aload_n 1, 1) := by decide +kernel
theorem dX8_instructs_335 : decode cX8_instructs 335 = .ok (.bipush 56, 2) := by decide +kernel
theorem dX8_instructs_337 : decode cX8_instructs 337 = .ok (.aload_n 1, 1) := by decide +kernel
theorem dX8_instructs_338 : decode cX8_instructs 338 = .ok (.bipush 15, 2) := by decide +kernel
theorem dX8_instructs_340 : decode cX8_instructs 340 = .ok (.iaload, 1) := by decide +kernel
theorem dX8_instructs_341 : decode cX8_instructs 341 = .ok (.iadd, 1) := by decide +kernel
theorem dX8_instructs_342 : decode cX8_instructs 342 = .ok (.iconst 2, 1) := by decide +kernel
theorem dX8_instructs_343 : decode cX8_instructs 343 = .ok (.isub, 1) := by decide +kernel
theorem dX8_instructs_344 : decode cX8_instructs 344 = .ok (.iaload, 1) := by decide +kernel
theorem dX8_instructs_345 : decode cX8_instructs 345 = .ok (.iload 4, 2) := by decide +kernel
theorem dX8_instructs_347 : decode cX8_instructs 347 = .ok (.iadd, 1) := by decide +kernel
theorem dX8_instructs_348 : decode cX8_instructs 348 = .ok (.sipush 512, 3) := by decide +kernel
theorem dX8_instructs_351 : decode cX8_instructs 351 = .ok (.invokestatic 244, 3) := by decide +kernel
theorem dX8_instructs_354 : decode cX8_instructs 354 = .ok (.iastore, 1) := by decide +kernel
theorem dX8_instructs_355 : decode cX8_instructs 355 = .ok (.goto 57, 3) := by decide +kernel
theorem dX8_instructs_358 : decode cX8_instructs 358 = .ok (.iload_n 3, 1) := by decide +kernel
theorem dX8_instructs_359 : decode cX8_instructs 359 = .ok (.bipush 27, 2) := by decide +kernel
theorem dX8_instructs_361 : decode cX8_instructs 361 = .ok (.if_icmp .ne 14, 3) := by decide +kernel
theorem dX8_instructs_364 : decode cX8_instructs 364 = .ok (.aload_n 0, 1) := by decide +kernel
theorem dX8_instructs_365 : decode cX8_instructs 365 = .ok (.aload_n 1, 1) := by decide +kernel
theorem dX8_instructs_366 : decode cX8_instructs 366 = .ok (.iload 7, 2) := by decide +kernel
theorem dX8_instructs_368 : decode cX8_instructs 368 = .ok (.iaload, 1) := by decide +kernel
theorem dX8_instructs_369 : decode cX8_instructs 369 = .ok (.invokevirtual 247, 3) := by decide +kernel
theorem dX8_instructs_372 : decode cX8_instructs 372 = .ok (.goto 40, 3) := by decide +kernel
theorem dX8_instructs_375 : decode cX8_instructs 375 = .ok (.iload_n 3, 1) := by decide +kernel
theorem dX8_instructs_376 : decode cX8_instructs 376 = .ok (.bipush 28, 2) := by decide +kernel
theorem dX8_instructs_378 : decode cX8_instructs 378 = .ok (.if_icmp .ne 20, 3) := by decide +kernel
theorem dX8_instructs_381 : decode cX8_instructs 381 = .ok (.aload_n 1, 1) := by decide +kernel
theorem dX8_instructs_382 : decode cX8_instructs 382 = .ok (.iload 7, 2) := by decide +kernel
theorem dX8_instructs_384 : decode cX8_instructs 384 = .ok (.aload_n 1, 1) := by decide +kernel
theorem dX8_instructs_385 : decode cX8_instructs 385 = .ok (.bipush 40, 2) := by decide +kernel
theorem dX8_instructs_387 : decode cX8_instructs 387 = .ok (.iload 5, 2) := by decide +kernel
theorem dX8_instructs_389 : decode cX8_instructs 389 = .ok (.bipush 15, 2) := by decide +kernel
theorem dX8_instructs_391 : decode cX8_instructs 391 = .ok (.iand, 1) := by decide +kernel
theorem dX8_instructs_392 : decode cX8_instructs 392 = .ok (.iadd, 1) := by decide +kernel
theorem dX8_instructs_393 : decode cX8_instructs 393 = .ok (.iaload, 1) := by decide +kernel
theorem dX8_instructs_394 : decode cX8_instructs 394 = .ok (.iastore, 1) := by decide +kernel
theorem dX8_instructs_395 : decode cX8_instructs 395 = .ok (.goto 17, 3) := by decide +kernel
theorem dX8_instructs_398 : decode cX8_instructs 398 = .ok (.aload_n 1, 1) := by decide +kernel
theorem dX8_instructs_399 : decode cX8_instructs 399 = .ok (.bipush 40, 2) := by decide +kernel
theorem dX8_instructs_401 : decode cX8_instructs 401 = .ok (.iload 5, 2) := by decide +kernel
theorem dX8_instructs_403 : decode cX8_instructs 403 = .ok (.bipush 15, 2) := by decide +kernel
theorem dX8_instructs_405 : decode cX8_instructs 405 = .ok (.iand, 1) := by decide +kernel
theorem dX8_instructs_406 : decode cX8_instructs 406 = .ok (.iadd, 1) := by decide +kernel
theorem dX8_instructs_407 : decode cX8_instructs 407 = .ok (.aload_n 1, 1) := by decide +kernel
theorem dX8_instructs_408 : decode cX8_instructs 408 = .ok (.iload 7, 2) := by decide +kernel
theorem dX8_instructs_410 : decode cX8_instructs 410 = .ok (.iaload, 1) := by decide +kernel
theorem dX8_instructs_411 : decode cX8_instructs 411 = .ok (.iastore, 1) := by decide +kernel
theorem dX8_instructs_412 : decode cX8_instructs 412 = .ok (.return_, 1) := by decide +kernel
theorem dX8_moves_0 : decode cX8_moves 0 = .ok (.iload_n 2, 1) := by decide +kernel
theorem dX8_moves_1 : decode cX8_moves 1 = .ok (.bipush 9, 2) := by decide +kernel
theorem dX8_moves_3 : decode cX8_moves 3 = .ok (.if_icmp .ne 24, 3) := by decide +kernel
theorem dX8_moves_6 : decode cX8_moves 6 = .ok (.aload_n 1, 1) := by decide +kernel
theorem dX8_moves_7 : decode cX8_moves 7 = .ok (.bipush 56, 2) := by decide +kernel
theorem dX8_moves_9 : decode cX8_moves 9 = .ok (.aload_n 1, 1) := by decide +kernel
theorem dX8_moves_10 : decode cX8_moves 10 = .ok (.bipush 15, 2) := by decide +kernel
theorem dX8_moves_12 : decode cX8_moves 12 = .ok (.iaload, 1) := by decide +kernel
theorem dX8_moves_13 : decode cX8_moves 13 = .ok (.iadd, 1) := by decide +kernel
theorem dX8_moves_14 : decode cX8_moves 14 = .ok (.aload_n 1, 1) := by decide +kernel
theorem dX8_moves_15 : decode cX8_moves 15 = .ok (.iload_n 3, 1) := by decide +kernel
theorem dX8_moves_16 : decode cX8_moves 16 = .ok (.iaload, 1) := by decide +kernel
theorem dX8_moves_17 : decode cX8_moves 17 = .ok (.iastore, 1) := by decide +kernel
theorem dX8_moves_18 : decode cX8_moves 18 = .ok (.aload_n 0, 1) := by decide +kernel
theorem dX8_moves_19 : decode cX8_moves 19 = .ok (.aload_n 1, 1) := by decide +kernel
theorem dX8_moves_20 : decode cX8_moves 20 = .ok (.iconst 1, 1) := by decide +kernel
theorem dX8_moves_21 : decode cX8_moves 21 = .ok (.invokevirtual 186, 3) := by decide +kernel
theorem dX8_moves_24 : decode cX8_moves 24 = .ok (.goto 72, 3) := by decide +kernel
theorem dX8_moves_27 : decode cX8_moves 27 = .ok (.iload_n 2, 1) := by decide +kernel
theorem dX8_moves_28 : decode cX8_moves 28 = .ok (.bipush 10, 2) := by decide +kernel
theorem dX8_moves_30 : decode cX8_moves 30 = .ok (.if_icmp .ne 26, 3) := by decide +kernel
theorem dX8_moves_33 : decode cX8_moves 33 = .ok (.aload_n 1, 1) := by decide +kernel
theorem dX8_moves_34 : decode cX8_moves 34 = .ok (.bipush 15, 2) := by decide +kernel
theorem dX8_moves_36 : decode cX8_moves 36 = .ok (.dup2, 1) := by decide +kernel
theorem dX8_moves_37 : decode cX8_moves 37 = .ok (.iaload, 1) := by decide +kernel
theorem dX8_moves_38 : decode cX8_moves 38 = .ok (.iconst 1, 1) := by decide +kernel
theorem dX8_moves_39 : decode cX8_moves 39 = .ok (.isub, 1) := by decide +kernel
theorem dX8_moves_40 : decode cX8_moves 40 = .ok (.iastore, 1) := by decide +kernel
theorem dX8_moves_41 : decode cX8_moves 41 = .ok (.aload_n 1, 1) := by decide +kernel
theorem dX8_moves_42 : decode cX8_moves 42 = .ok (.iload_n 3, 1) := by decide +kernel
theorem dX8_moves_43 : decode cX8_moves 43 = .ok (.aload_n 1, 1) := by decide +kernel
theorem dX8_moves_44 : decode cX8_moves 44 = .ok (.bipush 56, 2) := by decide +kernel
theorem dX8_moves_46 : decode cX8_moves 46 = .ok (.aload_n 1, 1) := by decide +kernel
theorem dX8_moves_47 : decode cX8_moves 47 = .ok (.bipush 15, 2) := by decide +kernel
theorem dX8_moves_49 : decode cX8_moves 49 = .ok (.iaload, 1) := by decide +kernel
theorem dX8_moves_50 : decode cX8_moves 50 = .ok (.iadd, 1) := by decide +kernel
theorem dX8_moves_51 : decode cX8_moves 51 = .ok (.iaload, 1) := by decide +kernel
theorem dX8_moves_52 : decode cX8_moves 52 = .ok (.iastore, 1) := by decide +kernel
theorem dX8_moves_53 : decode cX8_moves 53 = .ok (.goto 43, 3) := by decide +kernel
theorem dX8_moves_56 : decode cX8_moves 56 = .ok (.iload_n 2, 1) := by decide +kernel
theorem dX8_moves_57 : decode cX8_moves 57 = .ok (.bipush 11, 2) := by decide +kernel
theorem dX8_moves_59 : decode cX8_moves 59 = .ok (.if_icmp .eq 31, 3) := by decide +kernel
theorem dX8_moves_62 : decode cX8_moves 62 = .ok (.iload_n 2, 1) := by decide +kernel
theorem dX8_moves_63 : decode cX8_moves 63 = .ok (.bipush 12, 2) := by decide +kernel
theorem dX8_moves_65 : decode cX8_moves 65 = .ok (.if_icmp .ne 11, 3) := by decide +kernel
theorem dX8_moves_68 : decode cX8_moves 68 = .ok (.aload_n 1, 1) := by decide +kernel
theorem dX8_moves_69 : decode cX8_moves 69 = .ok (.bipush 13, 2) := by decide +kernel
theorem dX8_moves_71 : decode cX8_moves 71 = .ok (.iaload, 1) := by decide +kernel
theorem dX8_moves_72 : decode cX8_moves 72 = .ok (.iconst 1, 1) := by decide +kernel
theorem dX8_moves_73 : decode cX8_moves 73 = .ok (.if_icmp .eq 17, 3) := by decide +kernel
theorem dX8_moves_76 : decode cX8_moves 76 = .ok (.iload_n 2, 1) := by decide +kernel
theorem dX8_moves_77 : decode cX8_moves 77 = .ok (.bipush 13, 2) := by decide +kernel
theorem dX8_moves_79 : decode cX8_moves 79 = .ok (.if_icmp .ne 17, 3) := by decide +kernel
theorem dX8_moves_82 : decode cX8_moves 82 = .ok (.aload_n 1, 1) := by decide +kernel
theorem dX8_moves_83 : decode cX8_moves 83 = .ok (.bipush 14, 2) := by decide +kernel
theorem dX8_moves_85 : decode cX8_moves 85 = .ok (.iaload, 1) := by decide +kernel
theorem dX8_moves_86 : decode cX8_moves 86 = .ok (.iconst 1, 1) := by decide +kernel
theorem dX8_moves_87 : decode cX8_moves 87 = .ok (.if_icmp .ne 9, 3) := by decide +kernel
theorem dX8_moves_90 : decode cX8_moves 90 = .ok (.aload_n 1, 1) := by decide +kernel
theorem dX8_moves_91 : decode cX8_moves 91 = .ok (.bipush 12, 2) := by decide +kernel
theorem dX8_moves_93 : decode cX8_moves 93 = .ok (.iload 4, 2) := by decide +kernel
theorem dX8_moves_95 : decode cX8_moves 95 = .ok (.iastore, 1) := by decide +kernel
theorem dX8_moves_96 : decode cX8_moves 96 = .ok (.return_, 1) := by decide +kernel
theorem dX8_rules_0 : decode cX8_rules 0 = .ok (.iload_n 2, 1) := by decide +kernel
theorem dX8_rules_1 : decode cX8_rules 1 = .ok (.bipush 14, 2) := by decide +kernel
theorem dX8_rules_3 : decode cX8_rules 3 = .ok (.if_icmp .ne 15, 3) := by decide +kernel
theorem dX8_rules_6 : decode cX8_rules 6 = .ok (.aload_n 0, 1) := by decide +kernel
theorem dX8_rules_7 : decode cX8_rules 7 = .ok (.aload_n 1, 1) := by decide +kernel
theorem dX8_rules_8 : decode cX8_rules 8 = .ok (.iload_n 3, 1) := by decide +kernel
theorem dX8_rules_9 : decode cX8_rules 9 = .ok (.bipush 18, 2) := by decide +kernel
theorem dX8_rules_11 : decode cX8_rules 11 = .ok (.irem, 1) := by decide +kernel
theorem dX8_rules_12 : decode cX8_rules 12 = .ok (.invokevirtual 143, 3) := by decide +kernel
theorem dX8_rules_15 : decode cX8_rules 15 = .ok (.goto 99, 3) := by decide +kernel
theorem dX8_rules_18 : decode cX8_rules 18 = .ok (.iload_n 2, 1) := by decide +kernel
theorem dX8_rules_19 : decode cX8_rules 19 = .ok (.bipush 15, 2) := by decide +kernel
theorem dX8_rules_21 : decode cX8_rules 21 = .ok (.if_icmp .ne 44, 3) := by decide +kernel
theorem dX8_rules_24 : decode cX8_rules 24 = .ok (.aload_n 1, 1) := by decide +kernel
theorem dX8_rules_25 : decode cX8_rules 25 = .ok (.sipush 194, 3) := by decide +kernel
theorem dX8_rules_28 : decode cX8_rules 28 = .ok (.iload_n 3, 1) := by decide +kernel
theorem dX8_rules_29 : decode cX8_rules 29 = .ok (.bipush 18, 2) := by decide +kernel
theorem dX8_rules_31 : decode cX8_rules 31 = .ok (.irem, 1) := by decide +kernel
theorem dX8_rules_32 : decode cX8_rules 32 = .ok (.iadd, 1) := by decide +kernel
theorem dX8_rules_33 : decode cX8_rules 33 = .ok (.aload_n 1, 1) := by decide +kernel
theorem dX8_rules_34 : decode cX8_rules 34 = .ok (.sipush 215, 3) := by decide +kernel
theorem dX8_rules_37 : decode cX8_rules 37 = .ok (.iload_n 3, 1) := by decide +kernel
theorem dX8_rules_38 : decode cX8_rules 38 = .ok (.bipush 18, 2) := by decide +kernel
theorem dX8_rules_40 : decode cX8_rules 40 = .ok (.irem, 1) := by decide +kernel
theorem dX8_rules_41 : decode cX8_rules 41 = .ok (.iadd, 1) := by decide +kernel
theorem dX8_rules_42 : decode cX8_rules 42 = .ok (.iaload, 1) := by decide +kernel
theorem dX8_rules_43 : decode cX8_rules 43 = .ok (.iconst 1, 1) := by decide +kernel
theorem dX8_rules_44 : decode cX8_rules 44 = .ok (.if_icmp .ne 16, 3) := by decide +kernel
theorem dX8_rules_47 : decode cX8_rules 47 = .ok (.aload_n 1, 1) := by decide +kernel
theorem dX8_rules_48 : decode cX8_rules 48 = .ok (.sipush 194, 3) := by decide +kernel
theorem dX8_rules_51 : decode cX8_rules 51 = .ok (.iload_n 3, 1) := by decide +kernel
theorem dX8_rules_52 : decode cX8_rules 52 = .ok (.bipush 18, 2) := by decide +kernel
theorem dX8_rules_54 : decode cX8_rules 54 = .ok (.irem, 1) := by decide +kernel
theorem dX8_rules_55 : decode cX8_rules 55 = .ok (.iadd, 1) := by decide +kernel
theorem dX8_rules_56 : decode cX8_rules 56 = .ok (.iaload, 1) := by decide +kernel
theorem dX8_rules_57 : decode cX8_rules 57 = .ok (.goto 4, 3) := by decide +kernel
theorem dX8_rules_60 : decode cX8_rules 60 = .ok (.iconst (-1), 1) := by decide +kernel
theorem dX8_rules_61 : decode cX8_rules 61 = .ok (.iastore, 1) := by decide +kernel
theorem dX8_rules_62 : decode cX8_rules 62 = .ok (.goto 52, 3) := by decide +kernel
theorem dX8_rules_65 : decode cX8_rules 65 = .ok (.iload_n 2, 1) := by decide +kernel
theorem dX8_rules_66 : decode cX8_rules 66 = .ok (.bipush 16, 2) := by decide +kernel
theorem dX8_rules_68 : decode cX8_rules 68 = .ok (.if_icmp .ne 13, 3) := by decide +kernel
theorem dX8_rules_71 : decode cX8_rules 71 = .ok (.aload_n 1, 1) := by decide +kernel
theorem dX8_rules_72 : decode cX8_rules 72 = .ok (.bipush 16, 2) := by decide +kernel
theorem dX8_rules_74 : decode cX8_rules 74 = .ok (.iload_n 3, 1) := by decide +kernel
theorem dX8_rules_75 : decode cX8_rules 75 = .ok (.iconst 1, 1) := by decide +kernel
theorem dX8_rules_76 : decode cX8_rules 76 = .ok (.iand, 1) := by decide +kernel
theorem dX8_rules_77 : decode cX8_rules 77 = .ok (.iastore, 1) := by decide +kernel
theorem dX8_rules_78 : decode cX8_rules 78 = .ok (.goto 36, 3) := by decide +kernel
theorem dX8_rules_81 : decode cX8_rules 81 = .ok (.iload_n 2, 1) := by decide +kernel
theorem dX8_rules_82 : decode cX8_rules 82 = .ok (.bipush 17, 2) := by decide +kernel
theorem dX8_rules_84 : decode cX8_rules 84 = .ok (.if_icmp .ne 11, 3) := by decide +kernel
theorem dX8_rules_87 : decode cX8_rules 87 = .ok (.aload_n 1, 1) := by decide +kernel
theorem dX8_rules_88 : decode cX8_rules 88 = .ok (.bipush 17, 2) := by decide +kernel
theorem dX8_rules_90 : decode cX8_rules 90 = .ok (.iload_n 3, 1) := by decide +kernel
theorem dX8_rules_91 : decode cX8_rules 91 = .ok (.iastore, 1) := by decide +kernel
theorem dX8_rules_92 : decode cX8_rules 92 = .ok (.goto 22, 3) := by decide +kernel
theorem dX8_rules_95 : decode cX8_rules 95 = .ok (.iload_n 2, 1) := by decide +kernel
theorem dX8_rules_96 : decode cX8_rules 96 = .ok (.bipush 18, 2) := by decide +kernel
theorem dX8_rules_98 : decode cX8_rules 98 = .ok (.if_icmp .ne 11, 3) := by decide +kernel
theorem dX8_rules_101 : decode cX8_rules 101 = .ok (.aload_n 0, 1) := by decide +kernel
theorem dX8_rules_102 : decode cX8_rules 102 = .ok (.aload_n 1, 1) := by decide +kernel
theorem dX8_rules_103 : decode cX8_rules 103 = .ok (.invokevirtual 250, 3) := by decide +kernel
theorem dX8_rules_106 : decode cX8_rules 106 = .ok (.goto 8, 3) := by decide +kernel
theorem dX8_rules_109 : decode cX8_rules 109 = .ok (.aload_n 1, 1) := by decide +kernel
theorem dX8_rules_110 : decode cX8_rules 110 = .ok (.bipush 23, 2) := by decide +kernel
theorem dX8_rules_112 : decode cX8_rules 112 = .ok (.iconst 1, 1) := by decide +kernel
theorem dX8_rules_113 : decode cX8_rules 113 = .ok (.iastore, 1) := by decide +kernel
theorem dX8_rules_114 : decode cX8_rules 114 = .ok (.return_, 1) := by decide +kernel
theorem dX8_ends_0 : decode cX8_ends 0 = .ok (.aload_n 1, 1) := by decide +kernel
theorem dX8_ends_1 : decode cX8_ends 1 = .ok (.bipush 30, 2) := by decide +kernel
theorem dX8_ends_3 : decode cX8_ends 3 = .ok (.dup2, 1) := by decide +kernel
theorem dX8_ends_4 : decode cX8_ends 4 = .ok (.iaload, 1) := by decide +kernel
theorem dX8_ends_5 : decode cX8_ends 5 = .ok (.iconst 1, 1) := by decide +kernel
theorem dX8_ends_6 : decode cX8_ends 6 = .ok (.isub, 1) := by decide +kernel
theorem dX8_ends_7 : decode cX8_ends 7 = .ok (.iastore, 1) := by decide +kernel
theorem dX8_ends_8 : decode cX8_ends 8 = .ok (.aload_n 1, 1) := by decide +kernel
theorem dX8_ends_9 : decode cX8_ends 9 = .ok (.sipush 152, 3) := by decide +kernel
theorem dX8_ends_12 : decode cX8_ends 12 = .ok (.aload_n 1, 1) := by decide +kernel
theorem dX8_ends_13 : decode cX8_ends 13 = .ok (.bipush 30, 2) := by decide +kernel
theorem dX8_ends_15 : decode cX8_ends 15 = .ok (.iaload, 1) := by decide +kernel
theorem dX8_ends_16 : decode cX8_ends 16 = .ok (.iadd, 1) := by decide +kernel
theorem dX8_ends_17 : decode cX8_ends 17 = .ok (.iaload, 1) := by decide +kernel
theorem dX8_ends_18 : decode cX8_ends 18 = .ok (.istore_n 2, 1) := by decide +kernel
theorem dX8_ends_19 : decode cX8_ends 19 = .ok (.aload_n 1, 1) := by decide +kernel
theorem dX8_ends_20 : decode cX8_ends 20 = .ok (.sipush 300, 3) := by decide +kernel
theorem dX8_ends_23 : decode cX8_ends 23 = .ok (.iload_n 2, 1) := by decide +kernel
theorem dX8_ends_24 : decode cX8_ends 24 = .ok (.iadd, 1) := by decide +kernel
theorem dX8_ends_25 : decode cX8_ends 25 = .ok (.iconst 0, 1) := by decide +kernel
theorem dX8_ends_26 : decode cX8_ends 26 = .ok (.iastore, 1) := by decide +kernel
theorem dX8_ends_27 : decode cX8_ends 27 = .ok (.aload_n 0, 1) := by decide +kernel
theorem dX8_ends_28 : decode cX8_ends 28 = .ok (.iconst 2, 1) := by decide +kernel
theorem dX8_ends_29 : decode cX8_ends 29 = .ok (.iload_n 2, 1) := by decide +kernel
theorem dX8_ends_30 : decode cX8_ends 30 = .ok (.aload_n 1, 1) := by decide +kernel
theorem dX8_ends_31 : decode cX8_ends 31 = .ok (.bipush 25, 2) := by decide +kernel
theorem dX8_ends_33 : decode cX8_ends 33 = .ok (.iaload, 1) := by decide +kernel
theorem dX8_ends_34 : decode cX8_ends 34 = .ok (.aload_n 1, 1) := by decide +kernel
theorem dX8_ends_35 : decode cX8_ends 35 = .ok (.sipush 321, 3) := by decide +kernel
theorem dX8_ends_38 : decode cX8_ends 38 = .ok (.iload_n 2, 1) := by decide +kernel
theorem dX8_ends_39 : decode cX8_ends 39 = .ok (.iadd, 1) := by decide +kernel
theorem dX8_ends_40 : decode cX8_ends 40 = .ok (.iaload, 1) := by decide +kernel
theorem dX8_ends_41 : decode cX8_ends 41 = .ok (.isub, 1) := by decide +kernel
theorem dX8_ends_42 : decode cX8_ends 42 = .ok (.invokevirtual 147, 3) := by decide +kernel
theorem dX8_ends_45 : decode cX8_ends 45 = .ok (.aload_n 1, 1) := by decide +kernel
theorem dX8_ends_46 : decode cX8_ends 46 = .ok (.sipush 215, 3) := by decide +kernel
theorem dX8_ends_49 : decode cX8_ends 49 = .ok (.iload_n 2, 1) := by decide +kernel
theorem dX8_ends_50 : decode cX8_ends 50 = .ok (.iadd, 1) := by decide +kernel
theorem dX8_ends_51 : decode cX8_ends 51 = .ok (.iaload, 1) := by decide +kernel
theorem dX8_ends_52 : decode cX8_ends 52 = .ok (.iconst 1, 1) := by decide +kernel
theorem dX8_ends_53 : decode cX8_ends 53 = .ok (.if_icmp .ne 9, 3) := by decide +kernel
theorem dX8_ends_56 : decode cX8_ends 56 = .ok (.aload_n 0, 1) := by decide +kernel
theorem dX8_ends_57 : decode cX8_ends 57 = .ok (.aload_n 1, 1) := by decide +kernel
theorem dX8_ends_58 : decode cX8_ends 58 = .ok (.iload_n 2, 1) := by decide +kernel
theorem dX8_ends_59 : decode cX8_ends 59 = .ok (.invokevirtual 143, 3) := by decide +kernel
theorem dX8_ends_62 : decode cX8_ends 62 = .ok (.aload_n 0, 1) := by decide +kernel
theorem dX8_ends_63 : decode cX8_ends 63 = .ok (.aload_n 1, 1) := by decide +kernel
theorem dX8_ends_64 : decode cX8_ends 64 = .ok (.aload_n 0, 1) := by decide +kernel
theorem dX8_ends_65 : decode cX8_ends 65 = .ok (.getfield 189, 3) := by decide +kernel
theorem dX8_ends_68 : decode cX8_ends 68 = .ok (.ifCond .ne 15, 3) := by decide +kernel
theorem dX8_ends_71 : decode cX8_ends 71 = .ok (.aload_n 0, 1) := by decide +kernel
theorem dX8_ends_72 : decode cX8_ends 72 = .ok (.aload_n 1, 1) := by decide +kernel
theorem dX8_ends_73 : decode cX8_ends 73 = .ok (.invokevirtual 170, 3) := by decide +kernel
theorem dX8_ends_76 : decode cX8_ends 76 = .ok (.ifCond .lt 7, 3) := by decide +kernel
theorem dX8_ends_79 : decode cX8_ends 79 = .ok (.iconst 2, 1) := by decide +kernel
theorem dX8_ends_80 : decode cX8_ends 80 = .ok (.goto 4, 3) := by decide +kernel
theorem dX8_ends_83 : decode cX8_ends 83 = .ok (.iconst 3, 1) := by decide +kernel
theorem dX8_ends_84 : decode cX8_ends 84 = .ok (.iconst 0, 1) := by decide +kernel
theorem dX8_ends_85 : decode cX8_ends 85 = .ok (.invokevirtual 173, 3) := by decide +kernel
theorem dX8_ends_88 : decode cX8_ends 88 = .ok (.return_, 1) := by decide +kernel
theorem dX8_floats_0 : decode cX8_floats 0 = .ok (.iload_n 2, 1) := by decide +kernel
theorem dX8_floats_1 : decode cX8_floats 1 = .ok (.bipush 20, 2) := by decide +kernel
theorem dX8_floats_3 : decode cX8_floats 3 = .ok (.if_icmp .ne 31, 3) := by decide +kernel
theorem dX8_floats_6 : decode cX8_floats 6 = .ok (.aload_n 1, 1) := by decide +kernel
theorem dX8_floats_7 : decode cX8_floats 7 = .ok (.bipush 8, 2) := by decide +kernel
theorem dX8_floats_9 : decode cX8_floats 9 = .ok (.iload_n 3, 1) := by decide +kernel
theorem dX8_floats_10 : decode cX8_floats 10 = .ok (.iadd, 1) := by decide +kernel
theorem dX8_floats_11 : decode cX8_floats 11 = .ok (.iload 7, 2) := by decide +kernel
theorem dX8_floats_13 : decode cX8_floats 13 = .ok (.ifCond .ne 7, 3) := by decide +kernel
theorem dX8_floats_16 : decode cX8_floats 16 = .ok (.iconst 0, 1) := by decide +kernel
theorem dX8_floats_17 : decode cX8_floats 17 = .ok (.goto 13, 3) := by decide +kernel
theorem dX8_floats_20 : decode cX8_floats 20 = .ok (.iconst 0, 1) := by decide +kernel
theorem dX8_floats_21 : decode cX8_floats 21 = .ok (.iload 7, 2) := by decide +kernel
theorem dX8_floats_23 : decode cX8_floats 23 = .ok (.i2l, 1) := by decide +kernel
theorem dX8_floats_24 : decode cX8_floats 24 = .ok (.bipush (-4), 2) := by decide +kernel
theorem dX8_floats_26 : decode cX8_floats 26 = .ok (.iconst 0, 1) := by decide +kernel
theorem dX8_floats_27 : decode cX8_floats 27 = .ok (.invokestatic 98, 3) := by decide +kernel
theorem dX8_floats_30 : decode cX8_floats 30 = .ok (.iastore, 1) := by decide +kernel
theorem dX8_floats_31 : decode cX8_floats 31 = .ok (.goto 101, 3) := by decide +kernel
theorem dX8_floats_34 : decode cX8_floats 34 = .ok (.iload_n 2, 1) := by decide +kernel
theorem dX8_floats_35 : decode cX8_floats 35 = .ok (.bipush 21, 2) := by decide +kernel
theorem dX8_floats_37 : decode cX8_floats 37 = .ok (.if_icmp .ne 28, 3) := by decide +kernel
theorem dX8_floats_40 : decode cX8_floats 40 = .ok (.aload_n 1, 1) := by decide +kernel
theorem dX8_floats_41 : decode cX8_floats 41 = .ok (.bipush 8, 2) := by decide +kernel
theorem dX8_floats_43 : decode cX8_floats 43 = .ok (.iload_n 3, 1) := by decide +kernel
theorem dX8_floats_44 : decode cX8_floats 44 = .ok (.iadd, 1) := by decide +kernel
theorem dX8_floats_45 : decode cX8_floats 45 = .ok (.aload_n 1, 1) := by decide +kernel
theorem dX8_floats_46 : decode cX8_floats 46 = .ok (.bipush 8, 2) := by decide +kernel
theorem dX8_floats_48 : decode cX8_floats 48 = .ok (.iload_n 3, 1) := by decide +kernel
theorem dX8_floats_49 : decode cX8_floats 49 = .ok (.iadd, 1) := by decide +kernel
theorem dX8_floats_50 : decode cX8_floats 50 = .ok (.iaload, 1) := by decide +kernel
theorem dX8_floats_51 : decode cX8_floats 51 = .ok (.aload_n 1, 1) := by decide +kernel
theorem dX8_floats_52 : decode cX8_floats 52 = .ok (.bipush 8, 2) := by decide +kernel
theorem dX8_floats_54 : decode cX8_floats 54 = .ok (.iload 4, 2) := by decide +kernel
theorem dX8_floats_56 : decode cX8_floats 56 = .ok (.iadd, 1) := by decide +kernel
theorem dX8_floats_57 : decode cX8_floats 57 = .ok (.iaload, 1) := by decide +kernel
theorem dX8_floats_58 : decode cX8_floats 58 = .ok (.invokestatic 209, 3) := by decide +kernel
theorem dX8_floats_61 : decode cX8_floats 61 = .ok (.iastore, 1) := by decide +kernel
theorem dX8_floats_62 : decode cX8_floats 62 = .ok (.goto 70, 3) := by decide +kernel
theorem dX8_floats_65 : decode cX8_floats 65 = .ok (.iload_n 2, 1) := by decide +kernel
theorem dX8_floats_66 : decode cX8_floats 66 = .ok (.bipush 22, 2) := by decide +kernel
theorem dX8_floats_68 : decode cX8_floats 68 = .ok (.if_icmp .ne 28, 3) := by decide +kernel
theorem dX8_floats_71 : decode cX8_floats 71 = .ok (.aload_n 1, 1) := by decide +kernel
theorem dX8_floats_72 : decode cX8_floats 72 = .ok (.bipush 8, 2) := by decide +kernel
theorem dX8_floats_74 : decode cX8_floats 74 = .ok (.iload_n 3, 1) := by decide +kernel
theorem dX8_floats_75 : decode cX8_floats 75 = .ok (.iadd, 1) := by decide +kernel
theorem dX8_floats_76 : decode cX8_floats 76 = .ok (.aload_n 1, 1) := by decide +kernel
theorem dX8_floats_77 : decode cX8_floats 77 = .ok (.bipush 8, 2) := by decide +kernel
theorem dX8_floats_79 : decode cX8_floats 79 = .ok (.iload_n 3, 1) := by decide +kernel
theorem dX8_floats_80 : decode cX8_floats 80 = .ok (.iadd, 1) := by decide +kernel
theorem dX8_floats_81 : decode cX8_floats 81 = .ok (.iaload, 1) := by decide +kernel
theorem dX8_floats_82 : decode cX8_floats 82 = .ok (.aload_n 1, 1) := by decide +kernel
theorem dX8_floats_83 : decode cX8_floats 83 = .ok (.bipush 8, 2) := by decide +kernel
theorem dX8_floats_85 : decode cX8_floats 85 = .ok (.iload 4, 2) := by decide +kernel
theorem dX8_floats_87 : decode cX8_floats 87 = .ok (.iadd, 1) := by decide +kernel
theorem dX8_floats_88 : decode cX8_floats 88 = .ok (.iaload, 1) := by decide +kernel
theorem dX8_floats_89 : decode cX8_floats 89 = .ok (.invokestatic 213, 3) := by decide +kernel
theorem dX8_floats_92 : decode cX8_floats 92 = .ok (.iastore, 1) := by decide +kernel
theorem dX8_floats_93 : decode cX8_floats 93 = .ok (.goto 39, 3) := by decide +kernel
theorem dX8_floats_96 : decode cX8_floats 96 = .ok (.iload_n 2, 1) := by decide +kernel
theorem dX8_floats_97 : decode cX8_floats 97 = .ok (.bipush 23, 2) := by decide +kernel
theorem dX8_floats_99 : decode cX8_floats 99 = .ok (.if_icmp .ne 20, 3) := by decide +kernel
theorem dX8_floats_102 : decode cX8_floats 102 = .ok (.aload_n 1, 1) := by decide +kernel
theorem dX8_floats_103 : decode cX8_floats 103 = .ok (.iload 5, 2) := by decide +kernel
theorem dX8_floats_105 : decode cX8_floats 105 = .ok (.aload_n 1, 1) := by decide +kernel
theorem dX8_floats_106 : decode cX8_floats 106 = .ok (.bipush 8, 2) := by decide +kernel
theorem dX8_floats_108 : decode cX8_floats 108 = .ok (.iload 4, 2) := by decide +kernel
theorem dX8_floats_110 : decode cX8_floats 110 = .ok (.iadd, 1) := by decide +kernel
theorem dX8_floats_111 : decode cX8_floats 111 = .ok (.iaload, 1) := by decide +kernel
theorem dX8_floats_112 : decode cX8_floats 112 = .ok (.invokestatic 253, 3) := by decide +kernel
theorem dX8_floats_115 : decode cX8_floats 115 = .ok (.iastore, 1) := by decide +kernel
theorem dX8_floats_116 : decode cX8_floats 116 = .ok (.goto 16, 3) := by decide +kernel
theorem dX8_floats_119 : decode cX8_floats 119 = .ok (.aload_n 1, 1) := by decide +kernel
theorem dX8_floats_120 : decode cX8_floats 120 = .ok (.bipush 8, 2) := by decide +kernel
theorem dX8_floats_122 : decode cX8_floats 122 = .ok (.iload_n 3, 1) := by decide +kernel
theorem dX8_floats_123 : decode cX8_floats 123 = .ok (.iadd, 1) := by decide +kernel
theorem dX8_floats_124 : decode cX8_floats 124 = .ok (.aload_n 1, 1) := by decide +kernel
theorem dX8_floats_125 : decode cX8_floats 125 = .ok (.iload 6, 2) := by decide +kernel
theorem dX8_floats_127 : decode cX8_floats 127 = .ok (.iaload, 1) := by decide +kernel
theorem dX8_floats_128 : decode cX8_floats 128 = .ok (.invokestatic 256, 3) := by decide +kernel
theorem dX8_floats_131 : decode cX8_floats 131 = .ok (.iastore, 1) := by decide +kernel
theorem dX8_floats_132 : decode cX8_floats 132 = .ok (.aload_n 1, 1) := by decide +kernel
theorem dX8_floats_133 : decode cX8_floats 133 = .ok (.bipush 18, 2) := by decide +kernel
theorem dX8_floats_135 : decode cX8_floats 135 = .ok (.iconst 1, 1) := by decide +kernel
theorem dX8_floats_136 : decode cX8_floats 136 = .ok (.iastore, 1) := by decide +kernel
theorem dX8_floats_137 : decode cX8_floats 137 = .ok (.return_, 1) := by decide +kernel
theorem dX8_tells_0 : decode cX8_tells 0 = .ok (.aload_n 0, 1) := by decide +kernel
theorem dX8_tells_1 : decode cX8_tells 1 = .ok (.getfield 72, 3) := by decide +kernel
theorem dX8_tells_4 : decode cX8_tells 4 = .ok (.ifCond .ne 4, 3) := by decide +kernel
theorem dX8_tells_7 : decode cX8_tells 7 = .ok (.return_, 1) := by decide +kernel
theorem dX8_tells_8 : decode cX8_tells 8 = .ok (.aload_n 0, 1) := by decide +kernel
theorem dX8_tells_9 : decode cX8_tells 9 = .ok (.getfield 26, 3) := by decide +kernel
theorem dX8_tells_12 : decode cX8_tells 12 = .ok (.bipush 15, 2) := by decide +kernel
theorem dX8_tells_14 : decode cX8_tells 14 = .ok (.iaload, 1) := by decide +kernel
theorem dX8_tells_15 : decode cX8_tells 15 = .ok (.bipush 64, 2) := by decide +kernel
theorem dX8_tells_17 : decode cX8_tells 17 = .ok (.if_icmp .ge 16, 3) := by decide +kernel
theorem dX8_tells_20 : decode cX8_tells 20 = .ok (.aload_n 0, 1) := by decide +kernel
theorem dX8_tells_21 : decode cX8_tells 21 = .ok (.getfield 41, 3) := by decide +kernel
theorem dX8_tells_24 : decode cX8_tells 24 = .ok (.aload_n 0, 1) := by decide +kernel
theorem dX8_tells_25 : decode cX8_tells 25 = .ok (.getfield 26, 3) := by decide +kernel
theorem dX8_tells_28 : decode cX8_tells 28 = .ok (.bipush 15, 2) := by decide +kernel
theorem dX8_tells_30 : decode cX8_tells 30 = .ok (.iaload, 1) := by decide +kernel
theorem dX8_tells_31 : decode cX8_tells 31 = .ok (.iload_n 1, 1) := by decide +kernel
theorem dX8_tells_32 : decode cX8_tells 32 = .ok (.iastore, 1) := by decide +kernel
theorem dX8_tells_33 : decode cX8_tells 33 = .ok (.aload_n 0, 1) := by decide +kernel
theorem dX8_tells_34 : decode cX8_tells 34 = .ok (.getfield 26, 3) := by decide +kernel
theorem dX8_tells_37 : decode cX8_tells 37 = .ok (.bipush 15, 2) := by decide +kernel
theorem dX8_tells_39 : decode cX8_tells 39 = .ok (.dup2, 1) := by decide +kernel
theorem dX8_tells_40 : decode cX8_tells 40 = .ok (.iaload, 1) := by decide +kernel
theorem dX8_tells_41 : decode cX8_tells 41 = .ok (.iconst 1, 1) := by decide +kernel
theorem dX8_tells_42 : decode cX8_tells 42 = .ok (.iadd, 1) := by decide +kernel
theorem dX8_tells_43 : decode cX8_tells 43 = .ok (.iastore, 1) := by decide +kernel
theorem dX8_tells_44 : decode cX8_tells 44 = .ok (.return_, 1) := by decide +kernel
theorem dX8_load_0 : decode cX8_load 0 = .ok (.aload_n 0, 1) := by decide +kernel
theorem dX8_load_1 : decode cX8_load 1 = .ok (.iconst 0, 1) := by decide +kernel
theorem dX8_load_2 : decode cX8_load 2 = .ok (.putfield 65, 3) := by decide +kernel
theorem dX8_load_5 : decode cX8_load 5 = .ok (.iload_n 1, 1) := by decide +kernel
theorem dX8_load_6 : decode cX8_load 6 = .ok (.iconst 0, 1) := by decide +kernel
theorem dX8_load_7 : decode cX8_load 7 = .ok (.sipush 504, 3) := by decide +kernel
theorem dX8_load_10 : decode cX8_load 10 = .ok (.invokestatic 195, 3) := by decide +kernel
theorem dX8_load_13 : decode cX8_load 13 = .ok (.ifCond .ne 5, 3) := by decide +kernel
theorem dX8_load_16 : decode cX8_load 16 = .ok (.iconst 0, 1) := by decide +kernel
theorem dX8_load_17 : decode cX8_load 17 = .ok (.ireturn, 1) := by decide +kernel
theorem dX8_load_18 : decode cX8_load 18 = .ok (.bipush 7, 2) := by decide +kernel
theorem dX8_load_20 : decode cX8_load 20 = .ok (.istore 4, 2) := by decide +kernel
theorem dX8_load_22 : decode cX8_load 22 = .ok (.iload 4, 2) := by decide +kernel
theorem dX8_load_24 : decode cX8_load 24 = .ok (.ifCond .lt 29, 3) := by decide +kernel
theorem dX8_load_27 : decode cX8_load 27 = .ok (.aload_n 0, 1) := by decide +kernel
theorem dX8_load_28 : decode cX8_load 28 = .ok (.getfield 7, 3) := by decide +kernel
theorem dX8_load_31 : decode cX8_load 31 = .ok (.iload_n 1, 1) := by decide +kernel
theorem dX8_load_32 : decode cX8_load 32 = .ok (.iload 4, 2) := by decide +kernel
theorem dX8_load_34 : decode cX8_load 34 = .ok (.iadd, 1) := by decide +kernel
theorem dX8_load_35 : decode cX8_load 35 = .ok (.lload_n 2, 1) := by decide +kernel
theorem dX8_load_36 : decode cX8_load 36 = .ok (.ldc2_w 259, 3) := by decide +kernel
theorem dX8_load_39 : decode cX8_load 39 = .ok (.land, 1) := by decide +kernel
theorem dX8_load_40 : decode cX8_load 40 = .ok (.l2i, 1) := by decide +kernel
theorem dX8_load_41 : decode cX8_load 41 = .ok (.iastore, 1) := by decide +kernel
theorem dX8_load_42 : decode cX8_load 42 = .ok (.lload_n 2, 1) := by decide +kernel
theorem dX8_load_43 : decode cX8_load 43 = .ok (.bipush 8, 2) := by decide +kernel
theorem dX8_load_45 : decode cX8_load 45 = .ok (.lshr, 1) := by decide +kernel
theorem dX8_load_46 : decode cX8_load 46 = .ok (.lstore_n 2, 1) := by decide +kernel
theorem dX8_load_47 : decode cX8_load 47 = .ok (.iinc 4 (-1), 3) := by decide +kernel
theorem dX8_load_50 : decode cX8_load 50 = .ok (.goto (-28), 3) := by decide +kernel
theorem dX8_load_53 : decode cX8_load 53 = .ok (.iconst 1, 1) := by decide +kernel
theorem dX8_load_54 : decode cX8_load 54 = .ok (.ireturn, 1) := by decide +kernel
theorem dX8_code_0 : decode cX8_code 0 = .ok (.aload_n 0, 1) := by decide +kernel
theorem dX8_code_1 : decode cX8_code 1 = .ok (.iconst 0, 1) := by decide +kernel
theorem dX8_code_2 : decode cX8_code 2 = .ok (.putfield 65, 3) := by decide +kernel
theorem dX8_code_5 : decode cX8_code 5 = .ok (.iload_n 1, 1) := by decide +kernel
theorem dX8_code_6 : decode cX8_code 6 = .ok (.iconst 0, 1) := by decide +kernel
theorem dX8_code_7 : decode cX8_code 7 = .ok (.sipush 511, 3) := by decide +kernel
theorem dX8_code_10 : decode cX8_code 10 = .ok (.invokestatic 195, 3) := by decide +kernel
theorem dX8_code_13 : decode cX8_code 13 = .ok (.ifCond .eq 12, 3) := by decide +kernel
theorem dX8_code_16 : decode cX8_code 16 = .ok (.aload_n 0, 1) := by decide +kernel
theorem dX8_code_17 : decode cX8_code 17 = .ok (.getfield 7, 3) := by decide +kernel
theorem dX8_code_20 : decode cX8_code 20 = .ok (.iload_n 1, 1) := by decide +kernel
theorem dX8_code_21 : decode cX8_code 21 = .ok (.iaload, 1) := by decide +kernel
theorem dX8_code_22 : decode cX8_code 22 = .ok (.goto 4, 3) := by decide +kernel
theorem dX8_code_25 : decode cX8_code 25 = .ok (.iconst (-1), 1) := by decide +kernel
theorem dX8_code_26 : decode cX8_code 26 = .ok (.ireturn, 1) := by decide +kernel
theorem dX8_rank_0 : decode cX8_rank 0 = .ok (.aload_n 0, 1) := by decide +kernel
theorem dX8_rank_1 : decode cX8_rank 1 = .ok (.iconst 0, 1) := by decide +kernel
theorem dX8_rank_2 : decode cX8_rank 2 = .ok (.putfield 65, 3) := by decide +kernel
theorem dX8_rank_5 : decode cX8_rank 5 = .ok (.iload_n 1, 1) := by decide +kernel
theorem dX8_rank_6 : decode cX8_rank 6 = .ok (.iconst 0, 1) := by decide +kernel
theorem dX8_rank_7 : decode cX8_rank 7 = .ok (.bipush 19, 2) := by decide +kernel
theorem dX8_rank_9 : decode cX8_rank 9 = .ok (.invokestatic 195, 3) := by decide +kernel
theorem dX8_rank_12 : decode cX8_rank 12 = .ok (.ifCond .eq 28, 3) := by decide +kernel
theorem dX8_rank_15 : decode cX8_rank 15 = .ok (.iload_n 2, 1) := by decide +kernel
theorem dX8_rank_16 : decode cX8_rank 16 = .ok (.iconst 0, 1) := by decide +kernel
theorem dX8_rank_17 : decode cX8_rank 17 = .ok (.sipush 255, 3) := by decide +kernel
theorem dX8_rank_20 : decode cX8_rank 20 = .ok (.invokestatic 195, 3) := by decide +kernel
theorem dX8_rank_23 : decode cX8_rank 23 = .ok (.ifCond .eq 17, 3) := by decide +kernel
theorem dX8_rank_26 : decode cX8_rank 26 = .ok (.aload_n 0, 1) := by decide +kernel
theorem dX8_rank_27 : decode cX8_rank 27 = .ok (.getfield 20, 3) := by decide +kernel
theorem dX8_rank_30 : decode cX8_rank 30 = .ok (.sipush 300, 3) := by decide +kernel
theorem dX8_rank_33 : decode cX8_rank 33 = .ok (.iload_n 1, 1) := by decide +kernel
theorem dX8_rank_34 : decode cX8_rank 34 = .ok (.iadd, 1) := by decide +kernel
theorem dX8_rank_35 : decode cX8_rank 35 = .ok (.iaload, 1) := by decide +kernel
theorem dX8_rank_36 : decode cX8_rank 36 = .ok (.iconst 1, 1) := by decide +kernel
theorem dX8_rank_37 : decode cX8_rank 37 = .ok (.if_icmp .ne 5, 3) := by decide +kernel
theorem dX8_rank_40 : decode cX8_rank 40 = .ok (.iconst 0, 1) := by decide +kernel
theorem dX8_rank_41 : decode cX8_rank 41 = .ok (.ireturn, 1) := by decide +kernel
theorem dX8_rank_42 : decode cX8_rank 42 = .ok (.aload_n 0, 1) := by decide +kernel
theorem dX8_rank_43 : decode cX8_rank 43 = .ok (.getfield 20, 3) := by decide +kernel
theorem dX8_rank_46 : decode cX8_rank 46 = .ok (.sipush 173, 3) := by decide +kernel
theorem dX8_rank_49 : decode cX8_rank 49 = .ok (.iload_n 1, 1) := by decide +kernel
theorem dX8_rank_50 : decode cX8_rank 50 = .ok (.iadd, 1) := by decide +kernel
theorem dX8_rank_51 : decode cX8_rank 51 = .ok (.iload_n 2, 1) := by decide +kernel
theorem dX8_rank_52 : decode cX8_rank 52 = .ok (.iastore, 1) := by decide +kernel
theorem dX8_rank_53 : decode cX8_rank 53 = .ok (.iconst 1, 1) := by decide +kernel
theorem dX8_rank_54 : decode cX8_rank 54 = .ok (.ireturn, 1) := by decide +kernel
theorem dX8_enable_0 : decode cX8_enable 0 = .ok (.aload_n 0, 1) := by decide +kernel
theorem dX8_enable_1 : decode cX8_enable 1 = .ok (.iconst 0, 1) := by decide +kernel
theorem dX8_enable_2 : decode cX8_enable 2 = .ok (.putfield 65, 3) := by decide +kernel
theorem dX8_enable_5 : decode cX8_enable 5 = .ok (.iload_n 1, 1) := by decide +kernel
theorem dX8_enable_6 : decode cX8_enable 6 = .ok (.iconst 0, 1) := by decide +kernel
theorem dX8_enable_7 : decode cX8_enable 7 = .ok (.bipush 19, 2) := by decide +kernel
theorem dX8_enable_9 : decode cX8_enable 9 = .ok (.invokestatic 195, 3) := by decide +kernel
theorem dX8_enable_12 : decode cX8_enable 12 = .ok (.ifCond .ne 5, 3) := by decide +kernel
theorem dX8_enable_15 : decode cX8_enable 15 = .ok (.iconst 0, 1) := by decide +kernel
theorem dX8_enable_16 : decode cX8_enable 16 = .ok (.ireturn, 1) := by decide +kernel
theorem dX8_enable_17 : decode cX8_enable 17 = .ok (.aload_n 0, 1) := by decide +kernel
theorem dX8_enable_18 : decode cX8_enable 18 = .ok (.getfield 16, 3) := by decide +kernel
theorem dX8_enable_21 : decode cX8_enable 21 = .ok (.iload_n 1, 1) := by decide +kernel
theorem dX8_enable_22 : decode cX8_enable 22 = .ok (.iload_n 2, 1) := by decide +kernel
theorem dX8_enable_23 : decode cX8_enable 23 = .ok (.bastore, 1) := by decide +kernel
theorem dX8_enable_24 : decode cX8_enable 24 = .ok (.iconst 1, 1) := by decide +kernel
theorem dX8_enable_25 : decode cX8_enable 25 = .ok (.ireturn, 1) := by decide +kernel
theorem dX8_vector_0 : decode cX8_vector 0 = .ok (.aload_n 0, 1) := by decide +kernel
theorem dX8_vector_1 : decode cX8_vector 1 = .ok (.iconst 0, 1) := by decide +kernel
theorem dX8_vector_2 : decode cX8_vector 2 = .ok (.putfield 65, 3) := by decide +kernel
theorem dX8_vector_5 : decode cX8_vector 5 = .ok (.iload_n 1, 1) := by decide +kernel
theorem dX8_vector_6 : decode cX8_vector 6 = .ok (.iconst 0, 1) := by decide +kernel
theorem dX8_vector_7 : decode cX8_vector 7 = .ok (.bipush 20, 2) := by decide +kernel
theorem dX8_vector_9 : decode cX8_vector 9 = .ok (.invokestatic 195, 3) := by decide +kernel
theorem dX8_vector_12 : decode cX8_vector 12 = .ok (.ifCond .eq 14, 3) := by decide +kernel
theorem dX8_vector_15 : decode cX8_vector 15 = .ok (.iload_n 2, 1) := by decide +kernel
theorem dX8_vector_16 : decode cX8_vector 16 = .ok (.iconst 0, 1) := by decide +kernel
theorem dX8_vector_17 : decode cX8_vector 17 = .ok (.sipush 511, 3) := by decide +kernel
theorem dX8_vector_20 : decode cX8_vector 20 = .ok (.invokestatic 195, 3) := by decide +kernel
theorem dX8_vector_23 : decode cX8_vector 23 = .ok (.ifCond .ne 5, 3) := by decide +kernel
theorem dX8_vector_26 : decode cX8_vector 26 = .ok (.iconst 0, 1) := by decide +kernel
theorem dX8_vector_27 : decode cX8_vector 27 = .ok (.ireturn, 1) := by decide +kernel
theorem dX8_vector_28 : decode cX8_vector 28 = .ok (.aload_n 0, 1) := by decide +kernel
theorem dX8_vector_29 : decode cX8_vector 29 = .ok (.getfield 13, 3) := by decide +kernel
theorem dX8_vector_32 : decode cX8_vector 32 = .ok (.iload_n 1, 1) := by decide +kernel
theorem dX8_vector_33 : decode cX8_vector 33 = .ok (.iload_n 2, 1) := by decide +kernel
theorem dX8_vector_34 : decode cX8_vector 34 = .ok (.iastore, 1) := by decide +kernel
theorem dX8_vector_35 : decode cX8_vector 35 = .ok (.iconst 1, 1) := by decide +kernel
theorem dX8_vector_36 : decode cX8_vector 36 = .ok (.ireturn, 1) := by decide +kernel
theorem dX8_split_0 : decode cX8_split 0 = .ok (.aload_n 0, 1) := by decide +kernel
theorem dX8_split_1 : decode cX8_split 1 = .ok (.iconst 0, 1) := by decide +kernel
theorem dX8_split_2 : decode cX8_split 2 = .ok (.putfield 65, 3) := by decide +kernel
theorem dX8_split_5 : decode cX8_split 5 = .ok (.iload_n 1, 1) := by decide +kernel
theorem dX8_split_6 : decode cX8_split 6 = .ok (.iconst 0, 1) := by decide +kernel
theorem dX8_split_7 : decode cX8_split 7 = .ok (.bipush 7, 2) := by decide +kernel
theorem dX8_split_9 : decode cX8_split 9 = .ok (.invokestatic 195, 3) := by decide +kernel
theorem dX8_split_12 : decode cX8_split 12 = .ok (.ifCond .eq 13, 3) := by decide +kernel
theorem dX8_split_15 : decode cX8_split 15 = .ok (.aload_n 0, 1) := by decide +kernel
theorem dX8_split_16 : decode cX8_split 16 = .ok (.getfield 20, 3) := by decide +kernel
theorem dX8_split_19 : decode cX8_split 19 = .ok (.bipush 30, 2) := by decide +kernel
theorem dX8_split_21 : decode cX8_split 21 = .ok (.iaload, 1) := by decide +kernel
theorem dX8_split_22 : decode cX8_split 22 = .ok (.ifCond .le 5, 3) := by decide +kernel
theorem dX8_split_25 : decode cX8_split 25 = .ok (.iconst 0, 1) := by decide +kernel
theorem dX8_split_26 : decode cX8_split 26 = .ok (.ireturn, 1) := by decide +kernel
theorem dX8_split_27 : decode cX8_split 27 = .ok (.aload_n 0, 1) := by decide +kernel
theorem dX8_split_28 : decode cX8_split 28 = .ok (.iload_n 1, 1) := by decide +kernel
theorem dX8_split_29 : decode cX8_split 29 = .ok (.putfield 113, 3) := by decide +kernel
theorem dX8_split_32 : decode cX8_split 32 = .ok (.iconst 1, 1) := by decide +kernel
theorem dX8_split_33 : decode cX8_split 33 = .ok (.ireturn, 1) := by decide +kernel
theorem dX8_hold_0 : decode cX8_hold 0 = .ok (.aload_n 0, 1) := by decide +kernel
theorem dX8_hold_1 : decode cX8_hold 1 = .ok (.iconst 0, 1) := by decide +kernel
theorem dX8_hold_2 : decode cX8_hold 2 = .ok (.putfield 65, 3) := by decide +kernel
theorem dX8_hold_5 : decode cX8_hold 5 = .ok (.iload_n 1, 1) := by decide +kernel
theorem dX8_hold_6 : decode cX8_hold 6 = .ok (.bipush 8, 2) := by decide +kernel
theorem dX8_hold_8 : decode cX8_hold 8 = .ok (.bipush 15, 2) := by decide +kernel
theorem dX8_hold_10 : decode cX8_hold 10 = .ok (.invokestatic 195, 3) := by decide +kernel
theorem dX8_hold_13 : decode cX8_hold 13 = .ok (.ifCond .eq 26, 3) := by decide +kernel
theorem dX8_hold_16 : decode cX8_hold 16 = .ok (.aload_n 0, 1) := by decide +kernel
theorem dX8_hold_17 : decode cX8_hold 17 = .ok (.getfield 20, 3) := by decide +kernel
theorem dX8_hold_20 : decode cX8_hold 20 = .ok (.sipush 215, 3) := by decide +kernel
theorem dX8_hold_23 : decode cX8_hold 23 = .ok (.iload_n 1, 1) := by decide +kernel
theorem dX8_hold_24 : decode cX8_hold 24 = .ok (.iadd, 1) := by decide +kernel
theorem dX8_hold_25 : decode cX8_hold 25 = .ok (.iaload, 1) := by decide +kernel
theorem dX8_hold_26 : decode cX8_hold 26 = .ok (.iconst 1, 1) := by decide +kernel
theorem dX8_hold_27 : decode cX8_hold 27 = .ok (.if_icmp .ne 7, 3) := by decide +kernel
theorem dX8_hold_30 : decode cX8_hold 30 = .ok (.iconst 1, 1) := by decide +kernel
theorem dX8_hold_31 : decode cX8_hold 31 = .ok (.goto 4, 3) := by decide +kernel
theorem dX8_hold_34 : decode cX8_hold 34 = .ok (.iconst 0, 1) := by decide +kernel
theorem dX8_hold_35 : decode cX8_hold 35 = .ok (.iload_n 2, 1) := by decide +kernel
theorem dX8_hold_36 : decode cX8_hold 36 = .ok (.if_icmp .ne 5, 3) := by decide +kernel
theorem dX8_hold_39 : decode cX8_hold 39 = .ok (.iconst 0, 1) := by decide +kernel
theorem dX8_hold_40 : decode cX8_hold 40 = .ok (.ireturn, 1) := by decide +kernel
theorem dX8_hold_41 : decode cX8_hold 41 = .ok (.aload_n 0, 1) := by decide +kernel
theorem dX8_hold_42 : decode cX8_hold 42 = .ok (.getfield 20, 3) := by decide +kernel
theorem dX8_hold_45 : decode cX8_hold 45 = .ok (.sipush 215, 3) := by decide +kernel
theorem dX8_hold_48 : decode cX8_hold 48 = .ok (.iload_n 1, 1) := by decide +kernel
theorem dX8_hold_49 : decode cX8_hold 49 = .ok (.iadd, 1) := by decide +kernel
theorem dX8_hold_50 : decode cX8_hold 50 = .ok (.iload_n 2, 1) := by decide +kernel
theorem dX8_hold_51 : decode cX8_hold 51 = .ok (.ifCond .eq 7, 3) := by decide +kernel
theorem dX8_hold_54 : decode cX8_hold 54 = .ok (.iconst 1, 1) := by decide +kernel
theorem dX8_hold_55 : decode cX8_hold 55 = .ok (.goto 4, 3) := by decide +kernel
theorem dX8_hold_58 : decode cX8_hold 58 = .ok (.iconst 0, 1) := by decide +kernel
theorem dX8_hold_59 : decode cX8_hold 59 = .ok (.iastore, 1) := by decide +kernel
theorem dX8_hold_60 : decode cX8_hold 60 = .ok (.aload_n 0, 1) := by decide +kernel
theorem dX8_hold_61 : decode cX8_hold 61 = .ok (.iconst 1, 1) := by decide +kernel
theorem dX8_hold_62 : decode cX8_hold 62 = .ok (.putfield 72, 3) := by decide +kernel
theorem dX8_hold_65 : decode cX8_hold 65 = .ok (.iload_n 2, 1) := by decide +kernel
theorem dX8_hold_66 : decode cX8_hold 66 = .ok (.ifCond .eq 12, 3) := by decide +kernel
theorem dX8_hold_69 : decode cX8_hold 69 = .ok (.aload_n 0, 1) := by decide +kernel
theorem dX8_hold_70 : decode cX8_hold 70 = .ok (.aload_n 0, 1) := by decide +kernel
theorem dX8_hold_71 : decode cX8_hold 71 = .ok (.getfield 20, 3) := by decide +kernel
theorem dX8_hold_74 : decode cX8_hold 74 = .ok (.iload_n 1, 1) := by decide +kernel
theorem dX8_hold_75 : decode cX8_hold 75 = .ok (.invokevirtual 143, 3) := by decide +kernel
theorem dX8_hold_78 : decode cX8_hold 78 = .ok (.iconst 1, 1) := by decide +kernel
theorem dX8_hold_79 : decode cX8_hold 79 = .ok (.ireturn, 1) := by decide +kernel
theorem dX8_pend_0 : decode cX8_pend 0 = .ok (.aload_n 0, 1) := by decide +kernel
theorem dX8_pend_1 : decode cX8_pend 1 = .ok (.iconst 0, 1) := by decide +kernel
theorem dX8_pend_2 : decode cX8_pend 2 = .ok (.putfield 65, 3) := by decide +kernel
theorem dX8_pend_5 : decode cX8_pend 5 = .ok (.iload_n 1, 1) := by decide +kernel
theorem dX8_pend_6 : decode cX8_pend 6 = .ok (.iconst 0, 1) := by decide +kernel
theorem dX8_pend_7 : decode cX8_pend 7 = .ok (.bipush 19, 2) := by decide +kernel
theorem dX8_pend_9 : decode cX8_pend 9 = .ok (.invokestatic 195, 3) := by decide +kernel
theorem dX8_pend_12 : decode cX8_pend 12 = .ok (.ifCond .ne 5, 3) := by decide +kernel
theorem dX8_pend_15 : decode cX8_pend 15 = .ok (.iconst 0, 1) := by decide +kernel
theorem dX8_pend_16 : decode cX8_pend 16 = .ok (.ireturn, 1) := by decide +kernel
theorem dX8_pend_17 : decode cX8_pend 17 = .ok (.aload_n 0, 1) := by decide +kernel
theorem dX8_pend_18 : decode cX8_pend 18 = .ok (.getfield 20, 3) := by decide +kernel
theorem dX8_pend_21 : decode cX8_pend 21 = .ok (.sipush 194, 3) := by decide +kernel
theorem dX8_pend_24 : decode cX8_pend 24 = .ok (.iload_n 1, 1) := by decide +kernel
theorem dX8_pend_25 : decode cX8_pend 25 = .ok (.iadd, 1) := by decide +kernel
theorem dX8_pend_26 : decode cX8_pend 26 = .ok (.iaload, 1) := by decide +kernel
theorem dX8_pend_27 : decode cX8_pend 27 = .ok (.ifCond .ge 7, 3) := by decide +kernel
theorem dX8_pend_30 : decode cX8_pend 30 = .ok (.iconst 1, 1) := by decide +kernel
theorem dX8_pend_31 : decode cX8_pend 31 = .ok (.goto 4, 3) := by decide +kernel
theorem dX8_pend_34 : decode cX8_pend 34 = .ok (.iconst 0, 1) := by decide +kernel
theorem dX8_pend_35 : decode cX8_pend 35 = .ok (.istore_n 2, 1) := by decide +kernel
theorem dX8_pend_36 : decode cX8_pend 36 = .ok (.aload_n 0, 1) := by decide +kernel
theorem dX8_pend_37 : decode cX8_pend 37 = .ok (.iconst 1, 1) := by decide +kernel
theorem dX8_pend_38 : decode cX8_pend 38 = .ok (.putfield 72, 3) := by decide +kernel
theorem dX8_pend_41 : decode cX8_pend 41 = .ok (.aload_n 0, 1) := by decide +kernel
theorem dX8_pend_42 : decode cX8_pend 42 = .ok (.aload_n 0, 1) := by decide +kernel
theorem dX8_pend_43 : decode cX8_pend 43 = .ok (.getfield 20, 3) := by decide +kernel
theorem dX8_pend_46 : decode cX8_pend 46 = .ok (.iload_n 1, 1) := by decide +kernel
theorem dX8_pend_47 : decode cX8_pend 47 = .ok (.invokevirtual 143, 3) := by decide +kernel
theorem dX8_pend_50 : decode cX8_pend 50 = .ok (.iload_n 2, 1) := by decide +kernel
theorem dX8_pend_51 : decode cX8_pend 51 = .ok (.ireturn, 1) := by decide +kernel
theorem dX8_clear_0 : decode cX8_clear 0 = .ok (.aload_n 0, 1) := by decide +kernel
theorem dX8_clear_1 : decode cX8_clear 1 = .ok (.iconst 0, 1) := by decide +kernel
theorem dX8_clear_2 : decode cX8_clear 2 = .ok (.putfield 65, 3) := by decide +kernel
theorem dX8_clear_5 : decode cX8_clear 5 = .ok (.iload_n 1, 1) := by decide +kernel
theorem dX8_clear_6 : decode cX8_clear 6 = .ok (.iconst 0, 1) := by decide +kernel
theorem dX8_clear_7 : decode cX8_clear 7 = .ok (.bipush 20, 2) := by decide +kernel
theorem dX8_clear_9 : decode cX8_clear 9 = .ok (.invokestatic 195, 3) := by decide +kernel
theorem dX8_clear_12 : decode cX8_clear 12 = .ok (.ifCond .eq 30, 3) := by decide +kernel
theorem dX8_clear_15 : decode cX8_clear 15 = .ok (.aload_n 0, 1) := by decide +kernel
theorem dX8_clear_16 : decode cX8_clear 16 = .ok (.getfield 20, 3) := by decide +kernel
theorem dX8_clear_19 : decode cX8_clear 19 = .ok (.sipush 194, 3) := by decide +kernel
theorem dX8_clear_22 : decode cX8_clear 22 = .ok (.iload_n 1, 1) := by decide +kernel
theorem dX8_clear_23 : decode cX8_clear 23 = .ok (.iadd, 1) := by decide +kernel
theorem dX8_clear_24 : decode cX8_clear 24 = .ok (.iaload, 1) := by decide +kernel
theorem dX8_clear_25 : decode cX8_clear 25 = .ok (.ifCond .lt 17, 3) := by decide +kernel
theorem dX8_clear_28 : decode cX8_clear 28 = .ok (.aload_n 0, 1) := by decide +kernel
theorem dX8_clear_29 : decode cX8_clear 29 = .ok (.getfield 20, 3) := by decide +kernel
theorem dX8_clear_32 : decode cX8_clear 32 = .ok (.sipush 215, 3) := by decide +kernel
theorem dX8_clear_35 : decode cX8_clear 35 = .ok (.iload_n 1, 1) := by decide +kernel
theorem dX8_clear_36 : decode cX8_clear 36 = .ok (.iadd, 1) := by decide +kernel
theorem dX8_clear_37 : decode cX8_clear 37 = .ok (.iaload, 1) := by decide +kernel
theorem dX8_clear_38 : decode cX8_clear 38 = .ok (.iconst 1, 1) := by decide +kernel
theorem dX8_clear_39 : decode cX8_clear 39 = .ok (.if_icmp .ne 5, 3) := by decide +kernel
theorem dX8_clear_42 : decode cX8_clear 42 = .ok (.iconst 0, 1) := by decide +kernel
theorem dX8_clear_43 : decode cX8_clear 43 = .ok (.ireturn, 1) := by decide +kernel
theorem dX8_clear_44 : decode cX8_clear 44 = .ok (.aload_n 0, 1) := by decide +kernel
theorem dX8_clear_45 : decode cX8_clear 45 = .ok (.getfield 20, 3) := by decide +kernel
theorem dX8_clear_48 : decode cX8_clear 48 = .ok (.sipush 194, 3) := by decide +kernel
theorem dX8_clear_51 : decode cX8_clear 51 = .ok (.iload_n 1, 1) := by decide +kernel
theorem dX8_clear_52 : decode cX8_clear 52 = .ok (.iadd, 1) := by decide +kernel
theorem dX8_clear_53 : decode cX8_clear 53 = .ok (.iconst (-1), 1) := by decide +kernel
theorem dX8_clear_54 : decode cX8_clear 54 = .ok (.iastore, 1) := by decide +kernel
theorem dX8_clear_55 : decode cX8_clear 55 = .ok (.iconst 1, 1) := by decide +kernel
theorem dX8_clear_56 : decode cX8_clear 56 = .ok (.ireturn, 1) := by decide +kernel
theorem dX8_timer_0 : decode cX8_timer 0 = .ok (.aload_n 0, 1) := by decide +kernel
theorem dX8_timer_1 : decode cX8_timer 1 = .ok (.iconst 0, 1) := by decide +kernel
theorem dX8_timer_2 : decode cX8_timer 2 = .ok (.putfield 65, 3) := by decide +kernel
theorem dX8_timer_5 : decode cX8_timer 5 = .ok (.iload_n 1, 1) := by decide +kernel
theorem dX8_timer_6 : decode cX8_timer 6 = .ok (.iconst 0, 1) := by decide +kernel
theorem dX8_timer_7 : decode cX8_timer 7 = .ok (.sipush 999, 3) := by decide +kernel
theorem dX8_timer_10 : decode cX8_timer 10 = .ok (.invokestatic 195, 3) := by decide +kernel
theorem dX8_timer_13 : decode cX8_timer 13 = .ok (.ifCond .ne 5, 3) := by decide +kernel
theorem dX8_timer_16 : decode cX8_timer 16 = .ok (.iconst 0, 1) := by decide +kernel
theorem dX8_timer_17 : decode cX8_timer 17 = .ok (.ireturn, 1) := by decide +kernel
theorem dX8_timer_18 : decode cX8_timer 18 = .ok (.aload_n 0, 1) := by decide +kernel
theorem dX8_timer_19 : decode cX8_timer 19 = .ok (.getfield 20, 3) := by decide +kernel
theorem dX8_timer_22 : decode cX8_timer 22 = .ok (.bipush 26, 2) := by decide +kernel
theorem dX8_timer_24 : decode cX8_timer 24 = .ok (.iload_n 1, 1) := by decide +kernel
theorem dX8_timer_25 : decode cX8_timer 25 = .ok (.iastore, 1) := by decide +kernel
theorem dX8_timer_26 : decode cX8_timer 26 = .ok (.aload_n 0, 1) := by decide +kernel
theorem dX8_timer_27 : decode cX8_timer 27 = .ok (.getfield 20, 3) := by decide +kernel
theorem dX8_timer_30 : decode cX8_timer 30 = .ok (.bipush 27, 2) := by decide +kernel
theorem dX8_timer_32 : decode cX8_timer 32 = .ok (.iload_n 1, 1) := by decide +kernel
theorem dX8_timer_33 : decode cX8_timer 33 = .ok (.iastore, 1) := by decide +kernel
theorem dX8_timer_34 : decode cX8_timer 34 = .ok (.iconst 1, 1) := by decide +kernel
theorem dX8_timer_35 : decode cX8_timer 35 = .ok (.ireturn, 1) := by decide +kernel
theorem dX8_arrive_0 : decode cX8_arrive 0 = .ok (.aload_n 0, 1) := by decide +kernel
theorem dX8_arrive_1 : decode cX8_arrive 1 = .ok (.iconst 0, 1) := by decide +kernel
theorem dX8_arrive_2 : decode cX8_arrive 2 = .ok (.putfield 65, 3) := by decide +kernel
theorem dX8_arrive_5 : decode cX8_arrive 5 = .ok (.iload_n 1, 1) := by decide +kernel
theorem dX8_arrive_6 : decode cX8_arrive 6 = .ok (.iconst 0, 1) := by decide +kernel
theorem dX8_arrive_7 : decode cX8_arrive 7 = .ok (.bipush 17, 2) := by decide +kernel
theorem dX8_arrive_9 : decode cX8_arrive 9 = .ok (.invokestatic 195, 3) := by decide +kernel
theorem dX8_arrive_12 : decode cX8_arrive 12 = .ok (.ifCond .eq 26, 3) := by decide +kernel
theorem dX8_arrive_15 : decode cX8_arrive 15 = .ok (.iload_n 2, 1) := by decide +kernel
theorem dX8_arrive_16 : decode cX8_arrive 16 = .ok (.iconst 1, 1) := by decide +kernel
theorem dX8_arrive_17 : decode cX8_arrive 17 = .ok (.sipush 999, 3) := by decide +kernel
theorem dX8_arrive_20 : decode cX8_arrive 20 = .ok (.invokestatic 195, 3) := by decide +kernel
theorem dX8_arrive_23 : decode cX8_arrive 23 = .ok (.ifCond .eq 15, 3) := by decide +kernel
theorem dX8_arrive_26 : decode cX8_arrive 26 = .ok (.aload_n 0, 1) := by decide +kernel
theorem dX8_arrive_27 : decode cX8_arrive 27 = .ok (.getfield 20, 3) := by decide +kernel
theorem dX8_arrive_30 : decode cX8_arrive 30 = .ok (.bipush 31, 2) := by decide +kernel
theorem dX8_arrive_32 : decode cX8_arrive 32 = .ok (.iaload, 1) := by decide +kernel
theorem dX8_arrive_33 : decode cX8_arrive 33 = .ok (.bipush 32, 2) := by decide +kernel
theorem dX8_arrive_35 : decode cX8_arrive 35 = .ok (.if_icmp .ne 5, 3) := by decide +kernel
theorem dX8_arrive_38 : decode cX8_arrive 38 = .ok (.iconst 0, 1) := by decide +kernel
theorem dX8_arrive_39 : decode cX8_arrive 39 = .ok (.ireturn, 1) := by decide +kernel
theorem dX8_arrive_40 : decode cX8_arrive 40 = .ok (.aload_n 0, 1) := by decide +kernel
theorem dX8_arrive_41 : decode cX8_arrive 41 = .ok (.getfield 20, 3) := by decide +kernel
theorem dX8_arrive_44 : decode cX8_arrive 44 = .ok (.sipush 236, 3) := by decide +kernel
theorem dX8_arrive_47 : decode cX8_arrive 47 = .ok (.aload_n 0, 1) := by decide +kernel
theorem dX8_arrive_48 : decode cX8_arrive 48 = .ok (.getfield 20, 3) := by decide +kernel
theorem dX8_arrive_51 : decode cX8_arrive 51 = .ok (.bipush 31, 2) := by decide +kernel
theorem dX8_arrive_53 : decode cX8_arrive 53 = .ok (.iaload, 1) := by decide +kernel
theorem dX8_arrive_54 : decode cX8_arrive 54 = .ok (.iadd, 1) := by decide +kernel
theorem dX8_arrive_55 : decode cX8_arrive 55 = .ok (.iload_n 1, 1) := by decide +kernel
theorem dX8_arrive_56 : decode cX8_arrive 56 = .ok (.iastore, 1) := by decide +kernel
theorem dX8_arrive_57 : decode cX8_arrive 57 = .ok (.aload_n 0, 1) := by decide +kernel
theorem dX8_arrive_58 : decode cX8_arrive 58 = .ok (.getfield 20, 3) := by decide +kernel
theorem dX8_arrive_61 : decode cX8_arrive 61 = .ok (.sipush 268, 3) := by decide +kernel
theorem dX8_arrive_64 : decode cX8_arrive 64 = .ok (.aload_n 0, 1) := by decide +kernel
theorem dX8_arrive_65 : decode cX8_arrive 65 = .ok (.getfield 20, 3) := by decide +kernel
theorem dX8_arrive_68 : decode cX8_arrive 68 = .ok (.bipush 31, 2) := by decide +kernel
theorem dX8_arrive_70 : decode cX8_arrive 70 = .ok (.iaload, 1) := by decide +kernel
theorem dX8_arrive_71 : decode cX8_arrive 71 = .ok (.iadd, 1) := by decide +kernel
theorem dX8_arrive_72 : decode cX8_arrive 72 = .ok (.aload_n 0, 1) := by decide +kernel
theorem dX8_arrive_73 : decode cX8_arrive 73 = .ok (.getfield 20, 3) := by decide +kernel
theorem dX8_arrive_76 : decode cX8_arrive 76 = .ok (.bipush 25, 2) := by decide +kernel
theorem dX8_arrive_78 : decode cX8_arrive 78 = .ok (.iaload, 1) := by decide +kernel
theorem dX8_arrive_79 : decode cX8_arrive 79 = .ok (.iload_n 2, 1) := by decide +kernel
theorem dX8_arrive_80 : decode cX8_arrive 80 = .ok (.iadd, 1) := by decide +kernel
theorem dX8_arrive_81 : decode cX8_arrive 81 = .ok (.iastore, 1) := by decide +kernel
theorem dX8_arrive_82 : decode cX8_arrive 82 = .ok (.aload_n 0, 1) := by decide +kernel
theorem dX8_arrive_83 : decode cX8_arrive 83 = .ok (.getfield 20, 3) := by decide +kernel
theorem dX8_arrive_86 : decode cX8_arrive 86 = .ok (.bipush 31, 2) := by decide +kernel
theorem dX8_arrive_88 : decode cX8_arrive 88 = .ok (.dup2, 1) := by decide +kernel
theorem dX8_arrive_89 : decode cX8_arrive 89 = .ok (.iaload, 1) := by decide +kernel
theorem dX8_arrive_90 : decode cX8_arrive 90 = .ok (.iconst 1, 1) := by decide +kernel
theorem dX8_arrive_91 : decode cX8_arrive 91 = .ok (.iadd, 1) := by decide +kernel
theorem dX8_arrive_92 : decode cX8_arrive 92 = .ok (.iastore, 1) := by decide +kernel
theorem dX8_arrive_93 : decode cX8_arrive 93 = .ok (.iconst 1, 1) := by decide +kernel
theorem dX8_arrive_94 : decode cX8_arrive 94 = .ok (.ireturn, 1) := by decide +kernel
theorem dX8_goesOn_0 : decode cX8_goesOn 0 = .ok (.aload_n 0, 1) := by decide +kernel
theorem dX8_goesOn_1 : decode cX8_goesOn 1 = .ok (.iconst 1, 1) := by decide +kernel
theorem dX8_goesOn_2 : decode cX8_goesOn 2 = .ok (.putfield 72, 3) := by decide +kernel
theorem dX8_goesOn_5 : decode cX8_goesOn 5 = .ok (.aload_n 0, 1) := by decide +kernel
theorem dX8_goesOn_6 : decode cX8_goesOn 6 = .ok (.iconst 0, 1) := by decide +kernel
theorem dX8_goesOn_7 : decode cX8_goesOn 7 = .ok (.putfield 189, 3) := by decide +kernel
theorem dX8_goesOn_10 : decode cX8_goesOn 10 = .ok (.aload_n 0, 1) := by decide +kernel
theorem dX8_goesOn_11 : decode cX8_goesOn 11 = .ok (.aload_n 0, 1) := by decide +kernel
theorem dX8_goesOn_12 : decode cX8_goesOn 12 = .ok (.getfield 20, 3) := by decide +kernel
theorem dX8_goesOn_15 : decode cX8_goesOn 15 = .ok (.invokevirtual 261, 3) := by decide +kernel
theorem dX8_goesOn_18 : decode cX8_goesOn 18 = .ok (.return_, 1) := by decide +kernel
theorem dX8_run_0 : decode cX8_run 0 = .ok (.aload_n 0, 1) := by decide +kernel
theorem dX8_run_1 : decode cX8_run 1 = .ok (.iconst 0, 1) := by decide +kernel
theorem dX8_run_2 : decode cX8_run 2 = .ok (.putfield 65, 3) := by decide +kernel
theorem dX8_run_5 : decode cX8_run 5 = .ok (.iload_n 1, 1) := by decide +kernel
theorem dX8_run_6 : decode cX8_run 6 = .ok (.iconst 1, 1) := by decide +kernel
theorem dX8_run_7 : decode cX8_run 7 = .ok (.sipush 200, 3) := by decide +kernel
theorem dX8_run_10 : decode cX8_run 10 = .ok (.invokestatic 195, 3) := by decide +kernel
theorem dX8_run_13 : decode cX8_run 13 = .ok (.ifCond .ne 5, 3) := by decide +kernel
theorem dX8_run_16 : decode cX8_run 16 = .ok (.iconst (-1), 1) := by decide +kernel
theorem dX8_run_17 : decode cX8_run 17 = .ok (.ireturn, 1) := by decide +kernel
theorem dX8_run_18 : decode cX8_run 18 = .ok (.iconst 0, 1) := by decide +kernel
theorem dX8_run_19 : decode cX8_run 19 = .ok (.istore_n 2, 1) := by decide +kernel
theorem dX8_run_20 : decode cX8_run 20 = .ok (.iload_n 2, 1) := by decide +kernel
theorem dX8_run_21 : decode cX8_run 21 = .ok (.iload_n 1, 1) := by decide +kernel
theorem dX8_run_22 : decode cX8_run 22 = .ok (.if_icmp .ge 24, 3) := by decide +kernel
theorem dX8_run_25 : decode cX8_run 25 = .ok (.aload_n 0, 1) := by decide +kernel
theorem dX8_run_26 : decode cX8_run 26 = .ok (.getfield 20, 3) := by decide +kernel
theorem dX8_run_29 : decode cX8_run 29 = .ok (.bipush 20, 2) := by decide +kernel
theorem dX8_run_31 : decode cX8_run 31 = .ok (.iaload, 1) := by decide +kernel
theorem dX8_run_32 : decode cX8_run 32 = .ok (.iconst 5, 1) := by decide +kernel
theorem dX8_run_33 : decode cX8_run 33 = .ok (.if_icmp .eq 13, 3) := by decide +kernel
theorem dX8_run_36 : decode cX8_run 36 = .ok (.aload_n 0, 1) := by decide +kernel
theorem dX8_run_37 : decode cX8_run 37 = .ok (.invokevirtual 264, 3) := by decide +kernel
theorem dX8_run_40 : decode cX8_run 40 = .ok (.iinc 2 1, 3) := by decide +kernel
theorem dX8_run_43 : decode cX8_run 43 = .ok (.goto (-23), 3) := by decide +kernel
theorem dX8_run_46 : decode cX8_run 46 = .ok (.iload_n 2, 1) := by decide +kernel
theorem dX8_run_47 : decode cX8_run 47 = .ok (.ireturn, 1) := by decide +kernel
theorem dX8_till_0 : decode cX8_till 0 = .ok (.aload_n 0, 1) := by decide +kernel
theorem dX8_till_1 : decode cX8_till 1 = .ok (.iconst 0, 1) := by decide +kernel
theorem dX8_till_2 : decode cX8_till 2 = .ok (.putfield 65, 3) := by decide +kernel
theorem dX8_till_5 : decode cX8_till 5 = .ok (.iload_n 1, 1) := by decide +kernel
theorem dX8_till_6 : decode cX8_till 6 = .ok (.iconst 0, 1) := by decide +kernel
theorem dX8_till_7 : decode cX8_till 7 = .ok (.bipush 20, 2) := by decide +kernel
theorem dX8_till_9 : decode cX8_till 9 = .ok (.invokestatic 195, 3) := by decide +kernel
theorem dX8_till_12 : decode cX8_till 12 = .ok (.ifCond .ne 5, 3) := by decide +kernel
theorem dX8_till_15 : decode cX8_till 15 = .ok (.iconst (-1), 1) := by decide +kernel
theorem dX8_till_16 : decode cX8_till 16 = .ok (.ireturn, 1) := by decide +kernel
theorem dX8_till_17 : decode cX8_till 17 = .ok (.iconst 1, 1) := by decide +kernel
theorem dX8_till_18 : decode cX8_till 18 = .ok (.istore_n 2, 1) := by decide +kernel
theorem dX8_till_19 : decode cX8_till 19 = .ok (.iload_n 2, 1) := by decide +kernel
theorem dX8_till_20 : decode cX8_till 20 = .ok (.sipush 300, 3) := by decide +kernel
theorem dX8_till_23 : decode cX8_till 23 = .ok (.if_icmp .gt 34, 3) := by decide +kernel
theorem dX8_till_26 : decode cX8_till 26 = .ok (.aload_n 0, 1) := by decide +kernel
theorem dX8_till_27 : decode cX8_till 27 = .ok (.getfield 20, 3) := by decide +kernel
theorem dX8_till_30 : decode cX8_till 30 = .ok (.bipush 20, 2) := by decide +kernel
theorem dX8_till_32 : decode cX8_till 32 = .ok (.iaload, 1) := by decide +kernel
theorem dX8_till_33 : decode cX8_till 33 = .ok (.iconst 5, 1) := by decide +kernel
theorem dX8_till_34 : decode cX8_till 34 = .ok (.if_icmp .eq 23, 3) := by decide +kernel
theorem dX8_till_37 : decode cX8_till 37 = .ok (.aload_n 0, 1) := by decide +kernel
theorem dX8_till_38 : decode cX8_till 38 = .ok (.invokevirtual 264, 3) := by decide +kernel
theorem dX8_till_41 : decode cX8_till 41 = .ok (.aload_n 0, 1) := by decide +kernel
theorem dX8_till_42 : decode cX8_till 42 = .ok (.getfield 151, 3) := by decide +kernel
theorem dX8_till_45 : decode cX8_till 45 = .ok (.iload_n 1, 1) := by decide +kernel
theorem dX8_till_46 : decode cX8_till 46 = .ok (.if_icmp .ne 5, 3) := by decide +kernel
theorem dX8_till_49 : decode cX8_till 49 = .ok (.iload_n 2, 1) := by decide +kernel
theorem dX8_till_50 : decode cX8_till 50 = .ok (.ireturn, 1) := by decide +kernel
theorem dX8_till_51 : decode cX8_till 51 = .ok (.iinc 2 1, 3) := by decide +kernel
theorem dX8_till_54 : decode cX8_till 54 = .ok (.goto (-35), 3) := by decide +kernel
theorem dX8_till_57 : decode cX8_till 57 = .ok (.iconst (-1), 1) := by decide +kernel
theorem dX8_till_58 : decode cX8_till 58 = .ok (.ireturn, 1) := by decide +kernel
theorem dX8_reset_0 : decode cX8_reset 0 = .ok (.aload_n 0, 1) := by decide +kernel
theorem dX8_reset_1 : decode cX8_reset 1 = .ok (.iconst 0, 1) := by decide +kernel
theorem dX8_reset_2 : decode cX8_reset 2 = .ok (.putfield 65, 3) := by decide +kernel
theorem dX8_reset_5 : decode cX8_reset 5 = .ok (.aload_n 0, 1) := by decide +kernel
theorem dX8_reset_6 : decode cX8_reset 6 = .ok (.getfield 20, 3) := by decide +kernel
theorem dX8_reset_9 : decode cX8_reset 9 = .ok (.bipush 30, 2) := by decide +kernel
theorem dX8_reset_11 : decode cX8_reset 11 = .ok (.iaload, 1) := by decide +kernel
theorem dX8_reset_12 : decode cX8_reset 12 = .ok (.istore_n 1, 1) := by decide +kernel
theorem dX8_reset_13 : decode cX8_reset 13 = .ok (.aload_n 0, 1) := by decide +kernel
theorem dX8_reset_14 : decode cX8_reset 14 = .ok (.invokevirtual 62, 3) := by decide +kernel
theorem dX8_reset_17 : decode cX8_reset 17 = .ok (.iload_n 1, 1) := by decide +kernel
theorem dX8_reset_18 : decode cX8_reset 18 = .ok (.ireturn, 1) := by decide +kernel
theorem dX8_reg_0 : decode cX8_reg 0 = .ok (.aload_n 0, 1) := by decide +kernel
theorem dX8_reg_1 : decode cX8_reg 1 = .ok (.iload_n 1, 1) := by decide +kernel
theorem dX8_reg_2 : decode cX8_reg 2 = .ok (.iconst 0, 1) := by decide +kernel
theorem dX8_reg_3 : decode cX8_reg 3 = .ok (.bipush 11, 2) := by decide +kernel
theorem dX8_reg_5 : decode cX8_reg 5 = .ok (.invokestatic 195, 3) := by decide +kernel
theorem dX8_reg_8 : decode cX8_reg 8 = .ok (.ifCond .eq 7, 3) := by decide +kernel
theorem dX8_reg_11 : decode cX8_reg 11 = .ok (.iconst 0, 1) := by decide +kernel
theorem dX8_reg_12 : decode cX8_reg 12 = .ok (.goto 4, 3) := by decide +kernel
theorem dX8_reg_15 : decode cX8_reg 15 = .ok (.iconst 1, 1) := by decide +kernel
theorem dX8_reg_16 : decode cX8_reg 16 = .ok (.putfield 65, 3) := by decide +kernel
theorem dX8_reg_19 : decode cX8_reg 19 = .ok (.aload_n 0, 1) := by decide +kernel
theorem dX8_reg_20 : decode cX8_reg 20 = .ok (.getfield 65, 3) := by decide +kernel
theorem dX8_reg_23 : decode cX8_reg 23 = .ok (.iconst 1, 1) := by decide +kernel
theorem dX8_reg_24 : decode cX8_reg 24 = .ok (.if_icmp .ne 7, 3) := by decide +kernel
theorem dX8_reg_27 : decode cX8_reg 27 = .ok (.iconst 0, 1) := by decide +kernel
theorem dX8_reg_28 : decode cX8_reg 28 = .ok (.goto 11, 3) := by decide +kernel
theorem dX8_reg_31 : decode cX8_reg 31 = .ok (.aload_n 0, 1) := by decide +kernel
theorem dX8_reg_32 : decode cX8_reg 32 = .ok (.getfield 20, 3) := by decide +kernel
theorem dX8_reg_35 : decode cX8_reg 35 = .ok (.iconst 0, 1) := by decide +kernel
theorem dX8_reg_36 : decode cX8_reg 36 = .ok (.iload_n 1, 1) := by decide +kernel
theorem dX8_reg_37 : decode cX8_reg 37 = .ok (.iadd, 1) := by decide +kernel
theorem dX8_reg_38 : decode cX8_reg 38 = .ok (.iaload, 1) := by decide +kernel
theorem dX8_reg_39 : decode cX8_reg 39 = .ok (.ireturn, 1) := by decide +kernel
theorem dX8_word_0 : decode cX8_word 0 = .ok (.aload_n 0, 1) := by decide +kernel
theorem dX8_word_1 : decode cX8_word 1 = .ok (.iload_n 1, 1) := by decide +kernel
theorem dX8_word_2 : decode cX8_word 2 = .ok (.iconst 0, 1) := by decide +kernel
theorem dX8_word_3 : decode cX8_word 3 = .ok (.bipush 95, 2) := by decide +kernel
theorem dX8_word_5 : decode cX8_word 5 = .ok (.invokestatic 195, 3) := by decide +kernel
theorem dX8_word_8 : decode cX8_word 8 = .ok (.ifCond .eq 7, 3) := by decide +kernel
theorem dX8_word_11 : decode cX8_word 11 = .ok (.iconst 0, 1) := by decide +kernel
theorem dX8_word_12 : decode cX8_word 12 = .ok (.goto 4, 3) := by decide +kernel
theorem dX8_word_15 : decode cX8_word 15 = .ok (.iconst 1, 1) := by decide +kernel
theorem dX8_word_16 : decode cX8_word 16 = .ok (.putfield 65, 3) := by decide +kernel
theorem dX8_word_19 : decode cX8_word 19 = .ok (.aload_n 0, 1) := by decide +kernel
theorem dX8_word_20 : decode cX8_word 20 = .ok (.getfield 65, 3) := by decide +kernel
theorem dX8_word_23 : decode cX8_word 23 = .ok (.iconst 1, 1) := by decide +kernel
theorem dX8_word_24 : decode cX8_word 24 = .ok (.if_icmp .ne 7, 3) := by decide +kernel
theorem dX8_word_27 : decode cX8_word 27 = .ok (.iconst 0, 1) := by decide +kernel
theorem dX8_word_28 : decode cX8_word 28 = .ok (.goto 12, 3) := by decide +kernel
theorem dX8_word_31 : decode cX8_word 31 = .ok (.aload_n 0, 1) := by decide +kernel
theorem dX8_word_32 : decode cX8_word 32 = .ok (.getfield 20, 3) := by decide +kernel
theorem dX8_word_35 : decode cX8_word 35 = .ok (.bipush 56, 2) := by decide +kernel
theorem dX8_word_37 : decode cX8_word 37 = .ok (.iload_n 1, 1) := by decide +kernel
theorem dX8_word_38 : decode cX8_word 38 = .ok (.iadd, 1) := by decide +kernel
theorem dX8_word_39 : decode cX8_word 39 = .ok (.iaload, 1) := by decide +kernel
theorem dX8_word_40 : decode cX8_word 40 = .ok (.ireturn, 1) := by decide +kernel
theorem dX8_data_0 : decode cX8_data 0 = .ok (.aload_n 0, 1) := by decide +kernel
theorem dX8_data_1 : decode cX8_data 1 = .ok (.iload_n 1, 1) := by decide +kernel
theorem dX8_data_2 : decode cX8_data 2 = .ok (.iconst 0, 1) := by decide +kernel
theorem dX8_data_3 : decode cX8_data 3 = .ok (.bipush 15, 2) := by decide +kernel
theorem dX8_data_5 : decode cX8_data 5 = .ok (.invokestatic 195, 3) := by decide +kernel
theorem dX8_data_8 : decode cX8_data 8 = .ok (.ifCond .eq 7, 3) := by decide +kernel
theorem dX8_data_11 : decode cX8_data 11 = .ok (.iconst 0, 1) := by decide +kernel
theorem dX8_data_12 : decode cX8_data 12 = .ok (.goto 4, 3) := by decide +kernel
theorem dX8_data_15 : decode cX8_data 15 = .ok (.iconst 1, 1) := by decide +kernel
theorem dX8_data_16 : decode cX8_data 16 = .ok (.putfield 65, 3) := by decide +kernel
theorem dX8_data_19 : decode cX8_data 19 = .ok (.aload_n 0, 1) := by decide +kernel
theorem dX8_data_20 : decode cX8_data 20 = .ok (.getfield 65, 3) := by decide +kernel
theorem dX8_data_23 : decode cX8_data 23 = .ok (.iconst 1, 1) := by decide +kernel
theorem dX8_data_24 : decode cX8_data 24 = .ok (.if_icmp .ne 7, 3) := by decide +kernel
theorem dX8_data_27 : decode cX8_data 27 = .ok (.iconst 0, 1) := by decide +kernel
theorem dX8_data_28 : decode cX8_data 28 = .ok (.goto 12, 3) := by decide +kernel
theorem dX8_data_31 : decode cX8_data 31 = .ok (.aload_n 0, 1) := by decide +kernel
theorem dX8_data_32 : decode cX8_data 32 = .ok (.getfield 20, 3) := by decide +kernel
theorem dX8_data_35 : decode cX8_data 35 = .ok (.bipush 40, 2) := by decide +kernel
theorem dX8_data_37 : decode cX8_data 37 = .ok (.iload_n 1, 1) := by decide +kernel
theorem dX8_data_38 : decode cX8_data 38 = .ok (.iadd, 1) := by decide +kernel
theorem dX8_data_39 : decode cX8_data 39 = .ok (.iaload, 1) := by decide +kernel
theorem dX8_data_40 : decode cX8_data 40 = .ok (.ireturn, 1) := by decide +kernel
theorem dX8_out_0 : decode cX8_out 0 = .ok (.aload_n 0, 1) := by decide +kernel
theorem dX8_out_1 : decode cX8_out 1 = .ok (.iload_n 1, 1) := by decide +kernel
theorem dX8_out_2 : decode cX8_out 2 = .ok (.iconst 0, 1) := by decide +kernel
theorem dX8_out_3 : decode cX8_out 3 = .ok (.bipush 63, 2) := by decide +kernel
theorem dX8_out_5 : decode cX8_out 5 = .ok (.invokestatic 195, 3) := by decide +kernel
theorem dX8_out_8 : decode cX8_out 8 = .ok (.ifCond .eq 18, 3) := by decide +kernel
theorem dX8_out_11 : decode cX8_out 11 = .ok (.iload_n 1, 1) := by decide +kernel
theorem dX8_out_12 : decode cX8_out 12 = .ok (.aload_n 0, 1) := by decide +kernel
theorem dX8_out_13 : decode cX8_out 13 = .ok (.getfield 26, 3) := by decide +kernel
theorem dX8_out_16 : decode cX8_out 16 = .ok (.bipush 15, 2) := by decide +kernel
theorem dX8_out_18 : decode cX8_out 18 = .ok (.iaload, 1) := by decide +kernel
theorem dX8_out_19 : decode cX8_out 19 = .ok (.if_icmp .ge 7, 3) := by decide +kernel
theorem dX8_out_22 : decode cX8_out 22 = .ok (.iconst 0, 1) := by decide +kernel
theorem dX8_out_23 : decode cX8_out 23 = .ok (.goto 4, 3) := by decide +kernel
theorem dX8_out_26 : decode cX8_out 26 = .ok (.iconst 1, 1) := by decide +kernel
theorem dX8_out_27 : decode cX8_out 27 = .ok (.putfield 65, 3) := by decide +kernel
theorem dX8_out_30 : decode cX8_out 30 = .ok (.aload_n 0, 1) := by decide +kernel
theorem dX8_out_31 : decode cX8_out 31 = .ok (.getfield 65, 3) := by decide +kernel
theorem dX8_out_34 : decode cX8_out 34 = .ok (.iconst 1, 1) := by decide +kernel
theorem dX8_out_35 : decode cX8_out 35 = .ok (.if_icmp .ne 7, 3) := by decide +kernel
theorem dX8_out_38 : decode cX8_out 38 = .ok (.iconst 0, 1) := by decide +kernel
theorem dX8_out_39 : decode cX8_out 39 = .ok (.goto 9, 3) := by decide +kernel
theorem dX8_out_42 : decode cX8_out 42 = .ok (.aload_n 0, 1) := by decide +kernel
theorem dX8_out_43 : decode cX8_out 43 = .ok (.getfield 41, 3) := by decide +kernel
theorem dX8_out_46 : decode cX8_out 46 = .ok (.iload_n 1, 1) := by decide +kernel
theorem dX8_out_47 : decode cX8_out 47 = .ok (.iaload, 1) := by decide +kernel
theorem dX8_out_48 : decode cX8_out 48 = .ok (.ireturn, 1) := by decide +kernel
theorem dX8_source_0 : decode cX8_source 0 = .ok (.aload_n 0, 1) := by decide +kernel
theorem dX8_source_1 : decode cX8_source 1 = .ok (.iconst 0, 1) := by decide +kernel
theorem dX8_source_2 : decode cX8_source 2 = .ok (.putfield 65, 3) := by decide +kernel
theorem dX8_source_5 : decode cX8_source 5 = .ok (.iload_n 1, 1) := by decide +kernel
theorem dX8_source_6 : decode cX8_source 6 = .ok (.iconst 0, 1) := by decide +kernel
theorem dX8_source_7 : decode cX8_source 7 = .ok (.bipush 20, 2) := by decide +kernel
theorem dX8_source_9 : decode cX8_source 9 = .ok (.invokestatic 195, 3) := by decide +kernel
theorem dX8_source_12 : decode cX8_source 12 = .ok (.ifCond .ne 6, 3) := by decide +kernel
theorem dX8_source_15 : decode cX8_source 15 = .ok (.bipush (-2), 2) := by decide +kernel
theorem dX8_source_17 : decode cX8_source 17 = .ok (.ireturn, 1) := by decide +kernel
theorem dX8_source_18 : decode cX8_source 18 = .ok (.iload_n 2, 1) := by decide +kernel
theorem dX8_source_19 : decode cX8_source 19 = .ok (.tableswitch 155 0 7 #[45, 66, 73, 88, 107, 118, 129, 142], 45) := by decide +kernel
theorem dX8_source_64 : decode cX8_source 64 = .ok (.iload_n 1, 1) := by decide +kernel
theorem dX8_source_65 : decode cX8_source 65 = .ok (.bipush 20, 2) := by decide +kernel
theorem dX8_source_67 : decode cX8_source 67 = .ok (.if_icmp .ne 7, 3) := by decide +kernel
theorem dX8_source_70 : decode cX8_source 70 = .ok (.iconst (-1), 1) := by decide +kernel
theorem dX8_source_71 : decode cX8_source 71 = .ok (.goto 13, 3) := by decide +kernel
theorem dX8_source_74 : decode cX8_source 74 = .ok (.aload_n 0, 1) := by decide +kernel
theorem dX8_source_75 : decode cX8_source 75 = .ok (.getfield 20, 3) := by decide +kernel
theorem dX8_source_78 : decode cX8_source 78 = .ok (.sipush 173, 3) := by decide +kernel
theorem dX8_source_81 : decode cX8_source 81 = .ok (.iload_n 1, 1) := by decide +kernel
theorem dX8_source_82 : decode cX8_source 82 = .ok (.iadd, 1) := by decide +kernel
theorem dX8_source_83 : decode cX8_source 83 = .ok (.iaload, 1) := by decide +kernel
theorem dX8_source_84 : decode cX8_source 84 = .ok (.ireturn, 1) := by decide +kernel
theorem dX8_source_85 : decode cX8_source 85 = .ok (.aload_n 0, 1) := by decide +kernel
theorem dX8_source_86 : decode cX8_source 86 = .ok (.getfield 13, 3) := by decide +kernel
theorem dX8_source_89 : decode cX8_source 89 = .ok (.iload_n 1, 1) := by decide +kernel
theorem dX8_source_90 : decode cX8_source 90 = .ok (.iaload, 1) := by decide +kernel
theorem dX8_source_91 : decode cX8_source 91 = .ok (.ireturn, 1) := by decide +kernel
theorem dX8_source_92 : decode cX8_source 92 = .ok (.aload_n 0, 1) := by decide +kernel
theorem dX8_source_93 : decode cX8_source 93 = .ok (.getfield 16, 3) := by decide +kernel
theorem dX8_source_96 : decode cX8_source 96 = .ok (.iload_n 1, 1) := by decide +kernel
theorem dX8_source_97 : decode cX8_source 97 = .ok (.baload, 1) := by decide +kernel
theorem dX8_source_98 : decode cX8_source 98 = .ok (.ifCond .eq 7, 3) := by decide +kernel
theorem dX8_source_101 : decode cX8_source 101 = .ok (.iconst 1, 1) := by decide +kernel
theorem dX8_source_102 : decode cX8_source 102 = .ok (.goto 4, 3) := by decide +kernel
theorem dX8_source_105 : decode cX8_source 105 = .ok (.iconst 0, 1) := by decide +kernel
theorem dX8_source_106 : decode cX8_source 106 = .ok (.ireturn, 1) := by decide +kernel
theorem dX8_source_107 : decode cX8_source 107 = .ok (.aload_n 0, 1) := by decide +kernel
theorem dX8_source_108 : decode cX8_source 108 = .ok (.getfield 20, 3) := by decide +kernel
theorem dX8_source_111 : decode cX8_source 111 = .ok (.sipush 194, 3) := by decide +kernel
theorem dX8_source_114 : decode cX8_source 114 = .ok (.iload_n 1, 1) := by decide +kernel
theorem dX8_source_115 : decode cX8_source 115 = .ok (.iadd, 1) := by decide +kernel
theorem dX8_source_116 : decode cX8_source 116 = .ok (.iaload, 1) := by decide +kernel
theorem dX8_source_117 : decode cX8_source 117 = .ok (.ifCond .lt 7, 3) := by decide +kernel
theorem dX8_source_120 : decode cX8_source 120 = .ok (.iconst 1, 1) := by decide +kernel
theorem dX8_source_121 : decode cX8_source 121 = .ok (.goto 4, 3) := by decide +kernel
theorem dX8_source_124 : decode cX8_source 124 = .ok (.iconst 0, 1) := by decide +kernel
theorem dX8_source_125 : decode cX8_source 125 = .ok (.ireturn, 1) := by decide +kernel
theorem dX8_source_126 : decode cX8_source 126 = .ok (.aload_n 0, 1) := by decide +kernel
theorem dX8_source_127 : decode cX8_source 127 = .ok (.getfield 20, 3) := by decide +kernel
theorem dX8_source_130 : decode cX8_source 130 = .ok (.sipush 300, 3) := by decide +kernel
theorem dX8_source_133 : decode cX8_source 133 = .ok (.iload_n 1, 1) := by decide +kernel
theorem dX8_source_134 : decode cX8_source 134 = .ok (.iadd, 1) := by decide +kernel
theorem dX8_source_135 : decode cX8_source 135 = .ok (.iaload, 1) := by decide +kernel
theorem dX8_source_136 : decode cX8_source 136 = .ok (.ireturn, 1) := by decide +kernel
theorem dX8_source_137 : decode cX8_source 137 = .ok (.aload_n 0, 1) := by decide +kernel
theorem dX8_source_138 : decode cX8_source 138 = .ok (.getfield 20, 3) := by decide +kernel
theorem dX8_source_141 : decode cX8_source 141 = .ok (.sipush 215, 3) := by decide +kernel
theorem dX8_source_144 : decode cX8_source 144 = .ok (.iload_n 1, 1) := by decide +kernel
theorem dX8_source_145 : decode cX8_source 145 = .ok (.iadd, 1) := by decide +kernel
theorem dX8_source_146 : decode cX8_source 146 = .ok (.iaload, 1) := by decide +kernel
theorem dX8_source_147 : decode cX8_source 147 = .ok (.ireturn, 1) := by decide +kernel
theorem dX8_source_148 : decode cX8_source 148 = .ok (.aload_n 0, 1) := by decide +kernel
theorem dX8_source_149 : decode cX8_source 149 = .ok (.getfield 20, 3) := by decide +kernel
theorem dX8_source_152 : decode cX8_source 152 = .ok (.iload_n 1, 1) := by decide +kernel
theorem dX8_source_153 : decode cX8_source 153 = .ok (.aload_n 0, 1) := by decide +kernel
theorem dX8_source_154 : decode cX8_source 154 = .ok (.getfield 113, 3) := by decide +kernel
theorem dX8_source_157 : decode cX8_source 157 = .ok (.invokestatic 109, 3) := by decide +kernel
theorem dX8_source_160 : decode cX8_source 160 = .ok (.ireturn, 1) := by decide +kernel
theorem dX8_source_161 : decode cX8_source 161 = .ok (.aload_n 0, 1) := by decide +kernel
theorem dX8_source_162 : decode cX8_source 162 = .ok (.getfield 20, 3) := by decide +kernel
theorem dX8_source_165 : decode cX8_source 165 = .ok (.iload_n 1, 1) := by decide +kernel
theorem dX8_source_166 : decode cX8_source 166 = .ok (.aload_n 0, 1) := by decide +kernel
theorem dX8_source_167 : decode cX8_source 167 = .ok (.getfield 113, 3) := by decide +kernel
theorem dX8_source_170 : decode cX8_source 170 = .ok (.invokestatic 116, 3) := by decide +kernel
theorem dX8_source_173 : decode cX8_source 173 = .ok (.ireturn, 1) := by decide +kernel
theorem dX8_source_174 : decode cX8_source 174 = .ok (.bipush (-2), 2) := by decide +kernel
theorem dX8_source_176 : decode cX8_source 176 = .ok (.ireturn, 1) := by decide +kernel
theorem dX8_nest_0 : decode cX8_nest 0 = .ok (.aload_n 0, 1) := by decide +kernel
theorem dX8_nest_1 : decode cX8_nest 1 = .ok (.iconst 0, 1) := by decide +kernel
theorem dX8_nest_2 : decode cX8_nest 2 = .ok (.putfield 65, 3) := by decide +kernel
theorem dX8_nest_5 : decode cX8_nest 5 = .ok (.iload_n 1, 1) := by decide +kernel
theorem dX8_nest_6 : decode cX8_nest 6 = .ok (.iconst 0, 1) := by decide +kernel
theorem dX8_nest_7 : decode cX8_nest 7 = .ok (.aload_n 0, 1) := by decide +kernel
theorem dX8_nest_8 : decode cX8_nest 8 = .ok (.getfield 20, 3) := by decide +kernel
theorem dX8_nest_11 : decode cX8_nest 11 = .ok (.bipush 30, 2) := by decide +kernel
theorem dX8_nest_13 : decode cX8_nest 13 = .ok (.iaload, 1) := by decide +kernel
theorem dX8_nest_14 : decode cX8_nest 14 = .ok (.iconst 1, 1) := by decide +kernel
theorem dX8_nest_15 : decode cX8_nest 15 = .ok (.isub, 1) := by decide +kernel
theorem dX8_nest_16 : decode cX8_nest 16 = .ok (.invokestatic 195, 3) := by decide +kernel
theorem dX8_nest_19 : decode cX8_nest 19 = .ok (.ifCond .eq 16, 3) := by decide +kernel
theorem dX8_nest_22 : decode cX8_nest 22 = .ok (.aload_n 0, 1) := by decide +kernel
theorem dX8_nest_23 : decode cX8_nest 23 = .ok (.getfield 20, 3) := by decide +kernel
theorem dX8_nest_26 : decode cX8_nest 26 = .ok (.sipush 152, 3) := by decide +kernel
theorem dX8_nest_29 : decode cX8_nest 29 = .ok (.iload_n 1, 1) := by decide +kernel
theorem dX8_nest_30 : decode cX8_nest 30 = .ok (.iadd, 1) := by decide +kernel
theorem dX8_nest_31 : decode cX8_nest 31 = .ok (.iaload, 1) := by decide +kernel
theorem dX8_nest_32 : decode cX8_nest 32 = .ok (.goto 4, 3) := by decide +kernel
theorem dX8_nest_35 : decode cX8_nest 35 = .ok (.iconst (-1), 1) := by decide +kernel
theorem dX8_nest_36 : decode cX8_nest 36 = .ok (.ireturn, 1) := by decide +kernel
theorem dX8_state_0 : decode cX8_state 0 = .ok (.aload_n 0, 1) := by decide +kernel
theorem dX8_state_1 : decode cX8_state 1 = .ok (.iconst 0, 1) := by decide +kernel
theorem dX8_state_2 : decode cX8_state 2 = .ok (.putfield 65, 3) := by decide +kernel
theorem dX8_state_5 : decode cX8_state 5 = .ok (.iload_n 1, 1) := by decide +kernel
theorem dX8_state_6 : decode cX8_state 6 = .ok (.tableswitch 224 0 15 #[78, 86, 94, 102, 110, 118, 126, 134, 142, 150, 158, 166, 174, 202, 211, 216], 78) := by decide +kernel
theorem dX8_state_84 : decode cX8_state 84 = .ok (.aload_n 0, 1) := by decide +kernel
theorem dX8_state_85 : decode cX8_state 85 = .ok (.getfield 20, 3) := by decide +kernel
theorem dX8_state_88 : decode cX8_state 88 = .ok (.bipush 20, 2) := by decide +kernel
theorem dX8_state_90 : decode cX8_state 90 = .ok (.iaload, 1) := by decide +kernel
theorem dX8_state_91 : decode cX8_state 91 = .ok (.ireturn, 1) := by decide +kernel
theorem dX8_state_92 : decode cX8_state 92 = .ok (.aload_n 0, 1) := by decide +kernel
theorem dX8_state_93 : decode cX8_state 93 = .ok (.getfield 20, 3) := by decide +kernel
theorem dX8_state_96 : decode cX8_state 96 = .ok (.bipush 21, 2) := by decide +kernel
theorem dX8_state_98 : decode cX8_state 98 = .ok (.iaload, 1) := by decide +kernel
theorem dX8_state_99 : decode cX8_state 99 = .ok (.ireturn, 1) := by decide +kernel
theorem dX8_state_100 : decode cX8_state 100 = .ok (.aload_n 0, 1) := by decide +kernel
theorem dX8_state_101 : decode cX8_state 101 = .ok (.getfield 20, 3) := by decide +kernel
theorem dX8_state_104 : decode cX8_state 104 = .ok (.bipush 22, 2) := by decide +kernel
theorem dX8_state_106 : decode cX8_state 106 = .ok (.iaload, 1) := by decide +kernel
theorem dX8_state_107 : decode cX8_state 107 = .ok (.ireturn, 1) := by decide +kernel
theorem dX8_state_108 : decode cX8_state 108 = .ok (.aload_n 0, 1) := by decide +kernel
theorem dX8_state_109 : decode cX8_state 109 = .ok (.getfield 20, 3) := by decide +kernel
theorem dX8_state_112 : decode cX8_state 112 = .ok (.bipush 23, 2) := by decide +kernel
theorem dX8_state_114 : decode cX8_state 114 = .ok (.iaload, 1) := by decide +kernel
theorem dX8_state_115 : decode cX8_state 115 = .ok (.ireturn, 1) := by decide +kernel
theorem dX8_state_116 : decode cX8_state 116 = .ok (.aload_n 0, 1) := by decide +kernel
theorem dX8_state_117 : decode cX8_state 117 = .ok (.getfield 20, 3) := by decide +kernel
theorem dX8_state_120 : decode cX8_state 120 = .ok (.bipush 12, 2) := by decide +kernel
theorem dX8_state_122 : decode cX8_state 122 = .ok (.iaload, 1) := by decide +kernel
theorem dX8_state_123 : decode cX8_state 123 = .ok (.ireturn, 1) := by decide +kernel
theorem dX8_state_124 : decode cX8_state 124 = .ok (.aload_n 0, 1) := by decide +kernel
theorem dX8_state_125 : decode cX8_state 125 = .ok (.getfield 20, 3) := by decide +kernel
theorem dX8_state_128 : decode cX8_state 128 = .ok (.bipush 15, 2) := by decide +kernel
theorem dX8_state_130 : decode cX8_state 130 = .ok (.iaload, 1) := by decide +kernel
theorem dX8_state_131 : decode cX8_state 131 = .ok (.ireturn, 1) := by decide +kernel
theorem dX8_state_132 : decode cX8_state 132 = .ok (.aload_n 0, 1) := by decide +kernel
theorem dX8_state_133 : decode cX8_state 133 = .ok (.getfield 20, 3) := by decide +kernel
theorem dX8_state_136 : decode cX8_state 136 = .ok (.bipush 13, 2) := by decide +kernel
theorem dX8_state_138 : decode cX8_state 138 = .ok (.iaload, 1) := by decide +kernel
theorem dX8_state_139 : decode cX8_state 139 = .ok (.ireturn, 1) := by decide +kernel
theorem dX8_state_140 : decode cX8_state 140 = .ok (.aload_n 0, 1) := by decide +kernel
theorem dX8_state_141 : decode cX8_state 141 = .ok (.getfield 20, 3) := by decide +kernel
theorem dX8_state_144 : decode cX8_state 144 = .ok (.bipush 14, 2) := by decide +kernel
theorem dX8_state_146 : decode cX8_state 146 = .ok (.iaload, 1) := by decide +kernel
theorem dX8_state_147 : decode cX8_state 147 = .ok (.ireturn, 1) := by decide +kernel
theorem dX8_state_148 : decode cX8_state 148 = .ok (.aload_n 0, 1) := by decide +kernel
theorem dX8_state_149 : decode cX8_state 149 = .ok (.getfield 20, 3) := by decide +kernel
theorem dX8_state_152 : decode cX8_state 152 = .ok (.bipush 16, 2) := by decide +kernel
theorem dX8_state_154 : decode cX8_state 154 = .ok (.iaload, 1) := by decide +kernel
theorem dX8_state_155 : decode cX8_state 155 = .ok (.ireturn, 1) := by decide +kernel
theorem dX8_state_156 : decode cX8_state 156 = .ok (.aload_n 0, 1) := by decide +kernel
theorem dX8_state_157 : decode cX8_state 157 = .ok (.getfield 20, 3) := by decide +kernel
theorem dX8_state_160 : decode cX8_state 160 = .ok (.bipush 17, 2) := by decide +kernel
theorem dX8_state_162 : decode cX8_state 162 = .ok (.iaload, 1) := by decide +kernel
theorem dX8_state_163 : decode cX8_state 163 = .ok (.ireturn, 1) := by decide +kernel
theorem dX8_state_164 : decode cX8_state 164 = .ok (.aload_n 0, 1) := by decide +kernel
theorem dX8_state_165 : decode cX8_state 165 = .ok (.getfield 20, 3) := by decide +kernel
theorem dX8_state_168 : decode cX8_state 168 = .ok (.bipush 18, 2) := by decide +kernel
theorem dX8_state_170 : decode cX8_state 170 = .ok (.iaload, 1) := by decide +kernel
theorem dX8_state_171 : decode cX8_state 171 = .ok (.ireturn, 1) := by decide +kernel
theorem dX8_state_172 : decode cX8_state 172 = .ok (.aload_n 0, 1) := by decide +kernel
theorem dX8_state_173 : decode cX8_state 173 = .ok (.getfield 20, 3) := by decide +kernel
theorem dX8_state_176 : decode cX8_state 176 = .ok (.bipush 19, 2) := by decide +kernel
theorem dX8_state_178 : decode cX8_state 178 = .ok (.iaload, 1) := by decide +kernel
theorem dX8_state_179 : decode cX8_state 179 = .ok (.ireturn, 1) := by decide +kernel
theorem dX8_state_180 : decode cX8_state 180 = .ok (.aload_n 0, 1) := by decide +kernel
theorem dX8_state_181 : decode cX8_state 181 = .ok (.getfield 20, 3) := by decide +kernel
theorem dX8_state_184 : decode cX8_state 184 = .ok (.aload_n 0, 1) := by decide +kernel
theorem dX8_state_185 : decode cX8_state 185 = .ok (.getfield 113, 3) := by decide +kernel
theorem dX8_state_188 : decode cX8_state 188 = .ok (.aload_n 0, 1) := by decide +kernel
theorem dX8_state_189 : decode cX8_state 189 = .ok (.getfield 20, 3) := by decide +kernel
theorem dX8_state_192 : decode cX8_state 192 = .ok (.bipush 16, 2) := by decide +kernel
theorem dX8_state_194 : decode cX8_state 194 = .ok (.iaload, 1) := by decide +kernel
theorem dX8_state_195 : decode cX8_state 195 = .ok (.iconst 1, 1) := by decide +kernel
theorem dX8_state_196 : decode cX8_state 196 = .ok (.if_icmp .ne 7, 3) := by decide +kernel
theorem dX8_state_199 : decode cX8_state 199 = .ok (.iconst 1, 1) := by decide +kernel
theorem dX8_state_200 : decode cX8_state 200 = .ok (.goto 4, 3) := by decide +kernel
theorem dX8_state_203 : decode cX8_state 203 = .ok (.iconst 0, 1) := by decide +kernel
theorem dX8_state_204 : decode cX8_state 204 = .ok (.invokestatic 119, 3) := by decide +kernel
theorem dX8_state_207 : decode cX8_state 207 = .ok (.ireturn, 1) := by decide +kernel
theorem dX8_state_208 : decode cX8_state 208 = .ok (.aload_n 0, 1) := by decide +kernel
theorem dX8_state_209 : decode cX8_state 209 = .ok (.aload_n 0, 1) := by decide +kernel
theorem dX8_state_210 : decode cX8_state 210 = .ok (.getfield 20, 3) := by decide +kernel
theorem dX8_state_213 : decode cX8_state 213 = .ok (.invokevirtual 170, 3) := by decide +kernel
theorem dX8_state_216 : decode cX8_state 216 = .ok (.ireturn, 1) := by decide +kernel
theorem dX8_state_217 : decode cX8_state 217 = .ok (.aload_n 0, 1) := by decide +kernel
theorem dX8_state_218 : decode cX8_state 218 = .ok (.getfield 113, 3) := by decide +kernel
theorem dX8_state_221 : decode cX8_state 221 = .ok (.ireturn, 1) := by decide +kernel
theorem dX8_state_222 : decode cX8_state 222 = .ok (.aload_n 0, 1) := by decide +kernel
theorem dX8_state_223 : decode cX8_state 223 = .ok (.getfield 20, 3) := by decide +kernel
theorem dX8_state_226 : decode cX8_state 226 = .ok (.bipush 27, 2) := by decide +kernel
theorem dX8_state_228 : decode cX8_state 228 = .ok (.iaload, 1) := by decide +kernel
theorem dX8_state_229 : decode cX8_state 229 = .ok (.ireturn, 1) := by decide +kernel
theorem dX8_state_230 : decode cX8_state 230 = .ok (.bipush (-2), 2) := by decide +kernel
theorem dX8_state_232 : decode cX8_state 232 = .ok (.ireturn, 1) := by decide +kernel
theorem dX8_count_0 : decode cX8_count 0 = .ok (.aload_n 0, 1) := by decide +kernel
theorem dX8_count_1 : decode cX8_count 1 = .ok (.iconst 0, 1) := by decide +kernel
theorem dX8_count_2 : decode cX8_count 2 = .ok (.putfield 65, 3) := by decide +kernel
theorem dX8_count_5 : decode cX8_count 5 = .ok (.iload_n 1, 1) := by decide +kernel
theorem dX8_count_6 : decode cX8_count 6 = .ok (.iconst 0, 1) := by decide +kernel
theorem dX8_count_7 : decode cX8_count 7 = .ok (.bipush 16, 2) := by decide +kernel
theorem dX8_count_9 : decode cX8_count 9 = .ok (.invokestatic 195, 3) := by decide +kernel
theorem dX8_count_12 : decode cX8_count 12 = .ok (.ifCond .ne 5, 3) := by decide +kernel
theorem dX8_count_15 : decode cX8_count 15 = .ok (.iconst (-1), 1) := by decide +kernel
theorem dX8_count_16 : decode cX8_count 16 = .ok (.ireturn, 1) := by decide +kernel
theorem dX8_count_17 : decode cX8_count 17 = .ok (.iload_n 1, 1) := by decide +kernel
theorem dX8_count_18 : decode cX8_count 18 = .ok (.ifCond .ne 11, 3) := by decide +kernel
theorem dX8_count_21 : decode cX8_count 21 = .ok (.aload_n 0, 1) := by decide +kernel
theorem dX8_count_22 : decode cX8_count 22 = .ok (.getfield 20, 3) := by decide +kernel
theorem dX8_count_25 : decode cX8_count 25 = .ok (.bipush 25, 2) := by decide +kernel
theorem dX8_count_27 : decode cX8_count 27 = .ok (.iaload, 1) := by decide +kernel
theorem dX8_count_28 : decode cX8_count 28 = .ok (.ireturn, 1) := by decide +kernel
theorem dX8_count_29 : decode cX8_count 29 = .ok (.iload_n 1, 1) := by decide +kernel
theorem dX8_count_30 : decode cX8_count 30 = .ok (.bipush 11, 2) := by decide +kernel
theorem dX8_count_32 : decode cX8_count 32 = .ok (.if_icmp .ne 11, 3) := by decide +kernel
theorem dX8_count_35 : decode cX8_count 35 = .ok (.aload_n 0, 1) := by decide +kernel
theorem dX8_count_36 : decode cX8_count 36 = .ok (.getfield 20, 3) := by decide +kernel
theorem dX8_count_39 : decode cX8_count 39 = .ok (.bipush 30, 2) := by decide +kernel
theorem dX8_count_41 : decode cX8_count 41 = .ok (.iaload, 1) := by decide +kernel
theorem dX8_count_42 : decode cX8_count 42 = .ok (.ireturn, 1) := by decide +kernel
theorem dX8_count_43 : decode cX8_count 43 = .ok (.iload_n 1, 1) := by decide +kernel
theorem dX8_count_44 : decode cX8_count 44 = .ok (.bipush 14, 2) := by decide +kernel
theorem dX8_count_46 : decode cX8_count 46 = .ok (.if_icmp .ne 11, 3) := by decide +kernel
theorem dX8_count_49 : decode cX8_count 49 = .ok (.aload_n 0, 1) := by decide +kernel
theorem dX8_count_50 : decode cX8_count 50 = .ok (.getfield 20, 3) := by decide +kernel
theorem dX8_count_53 : decode cX8_count 53 = .ok (.bipush 31, 2) := by decide +kernel
theorem dX8_count_55 : decode cX8_count 55 = .ok (.iaload, 1) := by decide +kernel
theorem dX8_count_56 : decode cX8_count 56 = .ok (.ireturn, 1) := by decide +kernel
theorem dX8_count_57 : decode cX8_count 57 = .ok (.iload_n 1, 1) := by decide +kernel
theorem dX8_count_58 : decode cX8_count 58 = .ok (.bipush 16, 2) := by decide +kernel
theorem dX8_count_60 : decode cX8_count 60 = .ok (.if_icmp .ne 22, 3) := by decide +kernel
theorem dX8_count_63 : decode cX8_count 63 = .ok (.aload_n 0, 1) := by decide +kernel
theorem dX8_count_64 : decode cX8_count 64 = .ok (.getfield 69, 3) := by decide +kernel
theorem dX8_count_67 : decode cX8_count 67 = .ok (.bipush 24, 2) := by decide +kernel
theorem dX8_count_69 : decode cX8_count 69 = .ok (.if_icmp .ge 10, 3) := by decide +kernel
theorem dX8_count_72 : decode cX8_count 72 = .ok (.aload_n 0, 1) := by decide +kernel
theorem dX8_count_73 : decode cX8_count 73 = .ok (.getfield 69, 3) := by decide +kernel
theorem dX8_count_76 : decode cX8_count 76 = .ok (.goto 5, 3) := by decide +kernel
theorem dX8_count_79 : decode cX8_count 79 = .ok (.bipush 24, 2) := by decide +kernel
theorem dX8_count_81 : decode cX8_count 81 = .ok (.ireturn, 1) := by decide +kernel
theorem dX8_count_82 : decode cX8_count 82 = .ok (.aload_n 0, 1) := by decide +kernel
theorem dX8_count_83 : decode cX8_count 83 = .ok (.getfield 26, 3) := by decide +kernel
theorem dX8_count_86 : decode cX8_count 86 = .ok (.iload_n 1, 1) := by decide +kernel
theorem dX8_count_87 : decode cX8_count 87 = .ok (.iaload, 1) := by decide +kernel
theorem dX8_count_88 : decode cX8_count 88 = .ok (.ireturn, 1) := by decide +kernel
theorem dX8_event_0 : decode cX8_event 0 = .ok (.aload_n 0, 1) := by decide +kernel
theorem dX8_event_1 : decode cX8_event 1 = .ok (.getfield 69, 3) := by decide +kernel
theorem dX8_event_4 : decode cX8_event 4 = .ok (.bipush 24, 2) := by decide +kernel
theorem dX8_event_6 : decode cX8_event 6 = .ok (.if_icmp .ge 10, 3) := by decide +kernel
theorem dX8_event_9 : decode cX8_event 9 = .ok (.aload_n 0, 1) := by decide +kernel
theorem dX8_event_10 : decode cX8_event 10 = .ok (.getfield 69, 3) := by decide +kernel
theorem dX8_event_13 : decode cX8_event 13 = .ok (.goto 5, 3) := by decide +kernel
theorem dX8_event_16 : decode cX8_event 16 = .ok (.bipush 24, 2) := by decide +kernel
theorem dX8_event_18 : decode cX8_event 18 = .ok (.istore_n 3, 1) := by decide +kernel
theorem dX8_event_19 : decode cX8_event 19 = .ok (.aload_n 0, 1) := by decide +kernel
theorem dX8_event_20 : decode cX8_event 20 = .ok (.iload_n 1, 1) := by decide +kernel
theorem dX8_event_21 : decode cX8_event 21 = .ok (.iconst 0, 1) := by decide +kernel
theorem dX8_event_22 : decode cX8_event 22 = .ok (.iload_n 3, 1) := by decide +kernel
theorem dX8_event_23 : decode cX8_event 23 = .ok (.iconst 1, 1) := by decide +kernel
theorem dX8_event_24 : decode cX8_event 24 = .ok (.isub, 1) := by decide +kernel
theorem dX8_event_25 : decode cX8_event 25 = .ok (.invokestatic 195, 3) := by decide +kernel
theorem dX8_event_28 : decode cX8_event 28 = .ok (.ifCond .eq 16, 3) := by decide +kernel
theorem dX8_event_31 : decode cX8_event 31 = .ok (.iload_n 2, 1) := by decide +kernel
theorem dX8_event_32 : decode cX8_event 32 = .ok (.iconst 0, 1) := by decide +kernel
theorem dX8_event_33 : decode cX8_event 33 = .ok (.iconst 3, 1) := by decide +kernel
theorem dX8_event_34 : decode cX8_event 34 = .ok (.invokestatic 195, 3) := by decide +kernel
theorem dX8_event_37 : decode cX8_event 37 = .ok (.ifCond .eq 7, 3) := by decide +kernel
theorem dX8_event_40 : decode cX8_event 40 = .ok (.iconst 0, 1) := by decide +kernel
theorem dX8_event_41 : decode cX8_event 41 = .ok (.goto 4, 3) := by decide +kernel
theorem dX8_event_44 : decode cX8_event 44 = .ok (.iconst 1, 1) := by decide +kernel
theorem dX8_event_45 : decode cX8_event 45 = .ok (.putfield 65, 3) := by decide +kernel
theorem dX8_event_48 : decode cX8_event 48 = .ok (.aload_n 0, 1) := by decide +kernel
theorem dX8_event_49 : decode cX8_event 49 = .ok (.getfield 65, 3) := by decide +kernel
theorem dX8_event_52 : decode cX8_event 52 = .ok (.iconst 1, 1) := by decide +kernel
theorem dX8_event_53 : decode cX8_event 53 = .ok (.if_icmp .ne 5, 3) := by decide +kernel
theorem dX8_event_56 : decode cX8_event 56 = .ok (.iconst 0, 1) := by decide +kernel
theorem dX8_event_57 : decode cX8_event 57 = .ok (.ireturn, 1) := by decide +kernel
theorem dX8_event_58 : decode cX8_event 58 = .ok (.aload_n 0, 1) := by decide +kernel
theorem dX8_event_59 : decode cX8_event 59 = .ok (.getfield 69, 3) := by decide +kernel
theorem dX8_event_62 : decode cX8_event 62 = .ok (.iconst 1, 1) := by decide +kernel
theorem dX8_event_63 : decode cX8_event 63 = .ok (.isub, 1) := by decide +kernel
theorem dX8_event_64 : decode cX8_event 64 = .ok (.iload_n 1, 1) := by decide +kernel
theorem dX8_event_65 : decode cX8_event 65 = .ok (.isub, 1) := by decide +kernel
theorem dX8_event_66 : decode cX8_event 66 = .ok (.bipush 24, 2) := by decide +kernel
theorem dX8_event_68 : decode cX8_event 68 = .ok (.irem, 1) := by decide +kernel
theorem dX8_event_69 : decode cX8_event 69 = .ok (.istore 4, 2) := by decide +kernel
theorem dX8_event_71 : decode cX8_event 71 = .ok (.iload_n 2, 1) := by decide +kernel
theorem dX8_event_72 : decode cX8_event 72 = .ok (.ifCond .ne 13, 3) := by decide +kernel
theorem dX8_event_75 : decode cX8_event 75 = .ok (.aload_n 0, 1) := by decide +kernel
theorem dX8_event_76 : decode cX8_event 76 = .ok (.getfield 29, 3) := by decide +kernel
theorem dX8_event_79 : decode cX8_event 79 = .ok (.iload 4, 2) := by decide +kernel
theorem dX8_event_81 : decode cX8_event 81 = .ok (.iaload, 1) := by decide +kernel
theorem dX8_event_82 : decode cX8_event 82 = .ok (.goto 40, 3) := by decide +kernel
theorem dX8_event_85 : decode cX8_event 85 = .ok (.iload_n 2, 1) := by decide +kernel
theorem dX8_event_86 : decode cX8_event 86 = .ok (.iconst 1, 1) := by decide +kernel
theorem dX8_event_87 : decode cX8_event 87 = .ok (.if_icmp .ne 13, 3) := by decide +kernel
theorem dX8_event_90 : decode cX8_event 90 = .ok (.aload_n 0, 1) := by decide +kernel
theorem dX8_event_91 : decode cX8_event 91 = .ok (.getfield 32, 3) := by decide +kernel
theorem dX8_event_94 : decode cX8_event 94 = .ok (.iload 4, 2) := by decide +kernel
theorem dX8_event_96 : decode cX8_event 96 = .ok (.iaload, 1) := by decide +kernel
theorem dX8_event_97 : decode cX8_event 97 = .ok (.goto 25, 3) := by decide +kernel
theorem dX8_event_100 : decode cX8_event 100 = .ok (.iload_n 2, 1) := by decide +kernel
theorem dX8_event_101 : decode cX8_event 101 = .ok (.iconst 2, 1) := by decide +kernel
theorem dX8_event_102 : decode cX8_event 102 = .ok (.if_icmp .ne 13, 3) := by decide +kernel
theorem dX8_event_105 : decode cX8_event 105 = .ok (.aload_n 0, 1) := by decide +kernel
theorem dX8_event_106 : decode cX8_event 106 = .ok (.getfield 35, 3) := by decide +kernel
theorem dX8_event_109 : decode cX8_event 109 = .ok (.iload 4, 2) := by decide +kernel
theorem dX8_event_111 : decode cX8_event 111 = .ok (.iaload, 1) := by decide +kernel
theorem dX8_event_112 : decode cX8_event 112 = .ok (.goto 10, 3) := by decide +kernel
theorem dX8_event_115 : decode cX8_event 115 = .ok (.aload_n 0, 1) := by decide +kernel
theorem dX8_event_116 : decode cX8_event 116 = .ok (.getfield 38, 3) := by decide +kernel
theorem dX8_event_119 : decode cX8_event 119 = .ok (.iload 4, 2) := by decide +kernel
theorem dX8_event_121 : decode cX8_event 121 = .ok (.iaload, 1) := by decide +kernel
theorem dX8_event_122 : decode cX8_event 122 = .ok (.ireturn, 1) := by decide +kernel
theorem dX8_waited_0 : decode cX8_waited 0 = .ok (.aload_n 0, 1) := by decide +kernel
theorem dX8_waited_1 : decode cX8_waited 1 = .ok (.iconst 0, 1) := by decide +kernel
theorem dX8_waited_2 : decode cX8_waited 2 = .ok (.putfield 65, 3) := by decide +kernel
theorem dX8_waited_5 : decode cX8_waited 5 = .ok (.iload_n 1, 1) := by decide +kernel
theorem dX8_waited_6 : decode cX8_waited 6 = .ok (.iconst 0, 1) := by decide +kernel
theorem dX8_waited_7 : decode cX8_waited 7 = .ok (.bipush 20, 2) := by decide +kernel
theorem dX8_waited_9 : decode cX8_waited 9 = .ok (.invokestatic 195, 3) := by decide +kernel
theorem dX8_waited_12 : decode cX8_waited 12 = .ok (.ifCond .eq 12, 3) := by decide +kernel
theorem dX8_waited_15 : decode cX8_waited 15 = .ok (.aload_n 0, 1) := by decide +kernel
theorem dX8_waited_16 : decode cX8_waited 16 = .ok (.getfield 44, 3) := by decide +kernel
theorem dX8_waited_19 : decode cX8_waited 19 = .ok (.iload_n 1, 1) := by decide +kernel
theorem dX8_waited_20 : decode cX8_waited 20 = .ok (.iaload, 1) := by decide +kernel
theorem dX8_waited_21 : decode cX8_waited 21 = .ok (.goto 4, 3) := by decide +kernel
theorem dX8_waited_24 : decode cX8_waited 24 = .ok (.iconst (-1), 1) := by decide +kernel
theorem dX8_waited_25 : decode cX8_waited 25 = .ok (.ireturn, 1) := by decide +kernel
theorem dX8_ahead_0 : decode cX8_ahead 0 = .ok (.aload_n 0, 1) := by decide +kernel
theorem dX8_ahead_1 : decode cX8_ahead 1 = .ok (.iconst 0, 1) := by decide +kernel
theorem dX8_ahead_2 : decode cX8_ahead 2 = .ok (.putfield 65, 3) := by decide +kernel
theorem dX8_ahead_5 : decode cX8_ahead 5 = .ok (.iload_n 1, 1) := by decide +kernel
theorem dX8_ahead_6 : decode cX8_ahead 6 = .ok (.iconst 0, 1) := by decide +kernel
theorem dX8_ahead_7 : decode cX8_ahead 7 = .ok (.bipush 20, 2) := by decide +kernel
theorem dX8_ahead_9 : decode cX8_ahead 9 = .ok (.invokestatic 195, 3) := by decide +kernel
theorem dX8_ahead_12 : decode cX8_ahead 12 = .ok (.ifCond .eq 35, 3) := by decide +kernel
theorem dX8_ahead_15 : decode cX8_ahead 15 = .ok (.iload_n 2, 1) := by decide +kernel
theorem dX8_ahead_16 : decode cX8_ahead 16 = .ok (.iconst 0, 1) := by decide +kernel
theorem dX8_ahead_17 : decode cX8_ahead 17 = .ok (.bipush 20, 2) := by decide +kernel
theorem dX8_ahead_19 : decode cX8_ahead 19 = .ok (.invokestatic 195, 3) := by decide +kernel
theorem dX8_ahead_22 : decode cX8_ahead 22 = .ok (.ifCond .eq 25, 3) := by decide +kernel
theorem dX8_ahead_25 : decode cX8_ahead 25 = .ok (.iload_n 1, 1) := by decide +kernel
theorem dX8_ahead_26 : decode cX8_ahead 26 = .ok (.iload_n 2, 1) := by decide +kernel
theorem dX8_ahead_27 : decode cX8_ahead 27 = .ok (.if_icmp .eq 20, 3) := by decide +kernel
theorem dX8_ahead_30 : decode cX8_ahead 30 = .ok (.aload_n 0, 1) := by decide +kernel
theorem dX8_ahead_31 : decode cX8_ahead 31 = .ok (.aload_n 0, 1) := by decide +kernel
theorem dX8_ahead_32 : decode cX8_ahead 32 = .ok (.getfield 20, 3) := by decide +kernel
theorem dX8_ahead_35 : decode cX8_ahead 35 = .ok (.iload_n 1, 1) := by decide +kernel
theorem dX8_ahead_36 : decode cX8_ahead 36 = .ok (.iload_n 2, 1) := by decide +kernel
theorem dX8_ahead_37 : decode cX8_ahead 37 = .ok (.invokevirtual 123, 3) := by decide +kernel
theorem dX8_ahead_40 : decode cX8_ahead 40 = .ok (.ifCond .eq 7, 3) := by decide +kernel
theorem dX8_ahead_43 : decode cX8_ahead 43 = .ok (.iconst 1, 1) := by decide +kernel
theorem dX8_ahead_44 : decode cX8_ahead 44 = .ok (.goto 4, 3) := by decide +kernel
theorem dX8_ahead_47 : decode cX8_ahead 47 = .ok (.iconst 0, 1) := by decide +kernel
theorem dX8_ahead_48 : decode cX8_ahead 48 = .ok (.ireturn, 1) := by decide +kernel
theorem dX8_splits_0 : decode cX8_splits 0 = .ok (.aload_n 0, 1) := by decide +kernel
theorem dX8_splits_1 : decode cX8_splits 1 = .ok (.iconst 0, 1) := by decide +kernel
theorem dX8_splits_2 : decode cX8_splits 2 = .ok (.putfield 65, 3) := by decide +kernel
theorem dX8_splits_5 : decode cX8_splits 5 = .ok (.iload_n 1, 1) := by decide +kernel
theorem dX8_splits_6 : decode cX8_splits 6 = .ok (.iconst 0, 1) := by decide +kernel
theorem dX8_splits_7 : decode cX8_splits 7 = .ok (.bipush 20, 2) := by decide +kernel
theorem dX8_splits_9 : decode cX8_splits 9 = .ok (.invokestatic 195, 3) := by decide +kernel
theorem dX8_splits_12 : decode cX8_splits 12 = .ok (.ifCond .ne 5, 3) := by decide +kernel
theorem dX8_splits_15 : decode cX8_splits 15 = .ok (.iconst (-1), 1) := by decide +kernel
theorem dX8_splits_16 : decode cX8_splits 16 = .ok (.ireturn, 1) := by decide +kernel
theorem dX8_splits_17 : decode cX8_splits 17 = .ok (.iconst 0, 1) := by decide +kernel
theorem dX8_splits_18 : decode cX8_splits 18 = .ok (.istore_n 2, 1) := by decide +kernel
theorem dX8_splits_19 : decode cX8_splits 19 = .ok (.bipush 7, 2) := by decide +kernel
theorem dX8_splits_21 : decode cX8_splits 21 = .ok (.istore_n 3, 1) := by decide +kernel
theorem dX8_splits_22 : decode cX8_splits 22 = .ok (.iload_n 3, 1) := by decide +kernel
theorem dX8_splits_23 : decode cX8_splits 23 = .ok (.ifCond .lt 55, 3) := by decide +kernel
theorem dX8_splits_26 : decode cX8_splits 26 = .ok (.iconst 2, 1) := by decide +kernel
theorem dX8_splits_27 : decode cX8_splits 27 = .ok (.iload_n 2, 1) := by decide +kernel
theorem dX8_splits_28 : decode cX8_splits 28 = .ok (.imul, 1) := by decide +kernel
theorem dX8_splits_29 : decode cX8_splits 29 = .ok (.aload_n 0, 1) := by decide +kernel
theorem dX8_splits_30 : decode cX8_splits 30 = .ok (.getfield 20, 3) := by decide +kernel
theorem dX8_splits_33 : decode cX8_splits 33 = .ok (.iload_n 1, 1) := by decide +kernel
theorem dX8_splits_34 : decode cX8_splits 34 = .ok (.iload_n 3, 1) := by decide +kernel
theorem dX8_splits_35 : decode cX8_splits 35 = .ok (.invokestatic 109, 3) := by decide +kernel
theorem dX8_splits_38 : decode cX8_splits 38 = .ok (.aload_n 0, 1) := by decide +kernel
theorem dX8_splits_39 : decode cX8_splits 39 = .ok (.getfield 20, 3) := by decide +kernel
theorem dX8_splits_42 : decode cX8_splits 42 = .ok (.iload_n 3, 1) := by decide +kernel
theorem dX8_splits_43 : decode cX8_splits 43 = .ok (.aload_n 0, 1) := by decide +kernel
theorem dX8_splits_44 : decode cX8_splits 44 = .ok (.getfield 20, 3) := by decide +kernel
theorem dX8_splits_47 : decode cX8_splits 47 = .ok (.bipush 16, 2) := by decide +kernel
theorem dX8_splits_49 : decode cX8_splits 49 = .ok (.iaload, 1) := by decide +kernel
theorem dX8_splits_50 : decode cX8_splits 50 = .ok (.iconst 1, 1) := by decide +kernel
theorem dX8_splits_51 : decode cX8_splits 51 = .ok (.if_icmp .ne 7, 3) := by decide +kernel
theorem dX8_splits_54 : decode cX8_splits 54 = .ok (.iconst 1, 1) := by decide +kernel
theorem dX8_splits_55 : decode cX8_splits 55 = .ok (.goto 4, 3) := by decide +kernel
theorem dX8_splits_58 : decode cX8_splits 58 = .ok (.iconst 0, 1) := by decide +kernel
theorem dX8_splits_59 : decode cX8_splits 59 = .ok (.invokestatic 119, 3) := by decide +kernel
theorem dX8_splits_62 : decode cX8_splits 62 = .ok (.if_icmp .ge 7, 3) := by decide +kernel
theorem dX8_splits_65 : decode cX8_splits 65 = .ok (.iconst 1, 1) := by decide +kernel
theorem dX8_splits_66 : decode cX8_splits 66 = .ok (.goto 4, 3) := by decide +kernel
theorem dX8_splits_69 : decode cX8_splits 69 = .ok (.iconst 0, 1) := by decide +kernel
theorem dX8_splits_70 : decode cX8_splits 70 = .ok (.iadd, 1) := by decide +kernel
theorem dX8_splits_71 : decode cX8_splits 71 = .ok (.istore_n 2, 1) := by decide +kernel
theorem dX8_splits_72 : decode cX8_splits 72 = .ok (.iinc 3 (-1), 3) := by decide +kernel
theorem dX8_splits_75 : decode cX8_splits 75 = .ok (.goto (-53), 3) := by decide +kernel
theorem dX8_splits_78 : decode cX8_splits 78 = .ok (.iload_n 2, 1) := by decide +kernel
theorem dX8_splits_79 : decode cX8_splits 79 = .ok (.ireturn, 1) := by decide +kernel
theorem dX8_escalates_0 : decode cX8_escalates 0 = .ok (.aload_n 0, 1) := by decide +kernel
theorem dX8_escalates_1 : decode cX8_escalates 1 = .ok (.iconst 0, 1) := by decide +kernel
theorem dX8_escalates_2 : decode cX8_escalates 2 = .ok (.putfield 65, 3) := by decide +kernel
theorem dX8_escalates_5 : decode cX8_escalates 5 = .ok (.iload_n 1, 1) := by decide +kernel
theorem dX8_escalates_6 : decode cX8_escalates 6 = .ok (.bipush 18, 2) := by decide +kernel
theorem dX8_escalates_8 : decode cX8_escalates 8 = .ok (.if_icmp .eq 11, 3) := by decide +kernel
theorem dX8_escalates_11 : decode cX8_escalates 11 = .ok (.iload_n 1, 1) := by decide +kernel
theorem dX8_escalates_12 : decode cX8_escalates 12 = .ok (.bipush 19, 2) := by decide +kernel
theorem dX8_escalates_14 : decode cX8_escalates 14 = .ok (.if_icmp .eq 5, 3) := by decide +kernel
theorem dX8_escalates_17 : decode cX8_escalates 17 = .ok (.iconst (-1), 1) := by decide +kernel
theorem dX8_escalates_18 : decode cX8_escalates 18 = .ok (.ireturn, 1) := by decide +kernel
theorem dX8_escalates_19 : decode cX8_escalates 19 = .ok (.aload_n 0, 1) := by decide +kernel
theorem dX8_escalates_20 : decode cX8_escalates 20 = .ok (.getfield 20, 3) := by decide +kernel
theorem dX8_escalates_23 : decode cX8_escalates 23 = .ok (.bipush 20, 2) := by decide +kernel
theorem dX8_escalates_25 : decode cX8_escalates 25 = .ok (.iaload, 1) := by decide +kernel
theorem dX8_escalates_26 : decode cX8_escalates 26 = .ok (.iconst 5, 1) := by decide +kernel
theorem dX8_escalates_27 : decode cX8_escalates 27 = .ok (.if_icmp .ne 7, 3) := by decide +kernel
theorem dX8_escalates_30 : decode cX8_escalates 30 = .ok (.iconst (-1), 1) := by decide +kernel
theorem dX8_escalates_31 : decode cX8_escalates 31 = .ok (.goto 12, 3) := by decide +kernel
theorem dX8_escalates_34 : decode cX8_escalates 34 = .ok (.aload_n 0, 1) := by decide +kernel
theorem dX8_escalates_35 : decode cX8_escalates 35 = .ok (.aload_n 0, 1) := by decide +kernel
theorem dX8_escalates_36 : decode cX8_escalates 36 = .ok (.getfield 20, 3) := by decide +kernel
theorem dX8_escalates_39 : decode cX8_escalates 39 = .ok (.iload_n 1, 1) := by decide +kernel
theorem dX8_escalates_40 : decode cX8_escalates 40 = .ok (.invokevirtual 139, 3) := by decide +kernel
theorem dX8_escalates_43 : decode cX8_escalates 43 = .ok (.istore_n 2, 1) := by decide +kernel
theorem dX8_escalates_44 : decode cX8_escalates 44 = .ok (.iload_n 2, 1) := by decide +kernel
theorem dX8_escalates_45 : decode cX8_escalates 45 = .ok (.ifCond .ge 8, 3) := by decide +kernel
theorem dX8_escalates_48 : decode cX8_escalates 48 = .ok (.bipush (-2), 2) := by decide +kernel
theorem dX8_escalates_50 : decode cX8_escalates 50 = .ok (.goto 4, 3) := by decide +kernel
theorem dX8_escalates_53 : decode cX8_escalates 53 = .ok (.iload_n 2, 1) := by decide +kernel
theorem dX8_escalates_54 : decode cX8_escalates 54 = .ok (.ireturn, 1) := by decide +kernel
theorem dX8_likeNow_0 : decode cX8_likeNow 0 = .ok (.iconst 0, 1) := by decide +kernel
theorem dX8_likeNow_1 : decode cX8_likeNow 1 = .ok (.istore_n 2, 1) := by decide +kernel
theorem dX8_likeNow_2 : decode cX8_likeNow 2 = .ok (.iload_n 2, 1) := by decide +kernel
theorem dX8_likeNow_3 : decode cX8_likeNow 3 = .ok (.sipush 342, 3) := by decide +kernel
theorem dX8_likeNow_6 : decode cX8_likeNow 6 = .ok (.if_icmp .ge 21, 3) := by decide +kernel
theorem dX8_likeNow_9 : decode cX8_likeNow 9 = .ok (.aload_n 0, 1) := by decide +kernel
theorem dX8_likeNow_10 : decode cX8_likeNow 10 = .ok (.getfield 23, 3) := by decide +kernel
theorem dX8_likeNow_13 : decode cX8_likeNow 13 = .ok (.iload_n 2, 1) := by decide +kernel
theorem dX8_likeNow_14 : decode cX8_likeNow 14 = .ok (.aload_n 0, 1) := by decide +kernel
theorem dX8_likeNow_15 : decode cX8_likeNow 15 = .ok (.getfield 20, 3) := by decide +kernel
theorem dX8_likeNow_18 : decode cX8_likeNow 18 = .ok (.iload_n 2, 1) := by decide +kernel
theorem dX8_likeNow_19 : decode cX8_likeNow 19 = .ok (.iaload, 1) := by decide +kernel
theorem dX8_likeNow_20 : decode cX8_likeNow 20 = .ok (.iastore, 1) := by decide +kernel
theorem dX8_likeNow_21 : decode cX8_likeNow 21 = .ok (.iinc 2 1, 3) := by decide +kernel
theorem dX8_likeNow_24 : decode cX8_likeNow 24 = .ok (.goto (-22), 3) := by decide +kernel
theorem dX8_likeNow_27 : decode cX8_likeNow 27 = .ok (.aload_n 0, 1) := by decide +kernel
theorem dX8_likeNow_28 : decode cX8_likeNow 28 = .ok (.iconst 0, 1) := by decide +kernel
theorem dX8_likeNow_29 : decode cX8_likeNow 29 = .ok (.putfield 72, 3) := by decide +kernel
theorem dX8_likeNow_32 : decode cX8_likeNow 32 = .ok (.aload_n 0, 1) := by decide +kernel
theorem dX8_likeNow_33 : decode cX8_likeNow 33 = .ok (.iload_n 1, 1) := by decide +kernel
theorem dX8_likeNow_34 : decode cX8_likeNow 34 = .ok (.putfield 189, 3) := by decide +kernel
theorem dX8_likeNow_37 : decode cX8_likeNow 37 = .ok (.return_, 1) := by decide +kernel
theorem dX8_soon_0 : decode cX8_soon 0 = .ok (.aload_n 0, 1) := by decide +kernel
theorem dX8_soon_1 : decode cX8_soon 1 = .ok (.iconst 0, 1) := by decide +kernel
theorem dX8_soon_2 : decode cX8_soon 2 = .ok (.putfield 65, 3) := by decide +kernel
theorem dX8_soon_5 : decode cX8_soon 5 = .ok (.iload_n 1, 1) := by decide +kernel
theorem dX8_soon_6 : decode cX8_soon 6 = .ok (.iconst 0, 1) := by decide +kernel
theorem dX8_soon_7 : decode cX8_soon 7 = .ok (.bipush 20, 2) := by decide +kernel
theorem dX8_soon_9 : decode cX8_soon 9 = .ok (.invokestatic 195, 3) := by decide +kernel
theorem dX8_soon_12 : decode cX8_soon 12 = .ok (.ifCond .ne 5, 3) := by decide +kernel
theorem dX8_soon_15 : decode cX8_soon 15 = .ok (.iconst (-1), 1) := by decide +kernel
theorem dX8_soon_16 : decode cX8_soon 16 = .ok (.ireturn, 1) := by decide +kernel
theorem dX8_soon_17 : decode cX8_soon 17 = .ok (.aload_n 0, 1) := by decide +kernel
theorem dX8_soon_18 : decode cX8_soon 18 = .ok (.iconst 0, 1) := by decide +kernel
theorem dX8_soon_19 : decode cX8_soon 19 = .ok (.invokevirtual 267, 3) := by decide +kernel
theorem dX8_soon_22 : decode cX8_soon 22 = .ok (.iconst 1, 1) := by decide +kernel
theorem dX8_soon_23 : decode cX8_soon 23 = .ok (.istore_n 2, 1) := by decide +kernel
theorem dX8_soon_24 : decode cX8_soon 24 = .ok (.iload_n 2, 1) := by decide +kernel
theorem dX8_soon_25 : decode cX8_soon 25 = .ok (.sipush 300, 3) := by decide +kernel
theorem dX8_soon_28 : decode cX8_soon 28 = .ok (.if_icmp .gt 27, 3) := by decide +kernel
theorem dX8_soon_31 : decode cX8_soon 31 = .ok (.aload_n 0, 1) := by decide +kernel
theorem dX8_soon_32 : decode cX8_soon 32 = .ok (.aload_n 0, 1) := by decide +kernel
theorem dX8_soon_33 : decode cX8_soon 33 = .ok (.getfield 23, 3) := by decide +kernel
theorem dX8_soon_36 : decode cX8_soon 36 = .ok (.invokevirtual 261, 3) := by decide +kernel
theorem dX8_soon_39 : decode cX8_soon 39 = .ok (.aload_n 0, 1) := by decide +kernel
theorem dX8_soon_40 : decode cX8_soon 40 = .ok (.getfield 151, 3) := by decide +kernel
theorem dX8_soon_43 : decode cX8_soon 43 = .ok (.iload_n 1, 1) := by decide +kernel
theorem dX8_soon_44 : decode cX8_soon 44 = .ok (.if_icmp .ne 5, 3) := by decide +kernel
theorem dX8_soon_47 : decode cX8_soon 47 = .ok (.iload_n 2, 1) := by decide +kernel
theorem dX8_soon_48 : decode cX8_soon 48 = .ok (.ireturn, 1) := by decide +kernel
theorem dX8_soon_49 : decode cX8_soon 49 = .ok (.iinc 2 1, 3) := by decide +kernel
theorem dX8_soon_52 : decode cX8_soon 52 = .ok (.goto (-28), 3) := by decide +kernel
theorem dX8_soon_55 : decode cX8_soon 55 = .ok (.iconst (-1), 1) := by decide +kernel
theorem dX8_soon_56 : decode cX8_soon 56 = .ok (.ireturn, 1) := by decide +kernel
theorem dX8_order_0 : decode cX8_order 0 = .ok (.aload_n 0, 1) := by decide +kernel
theorem dX8_order_1 : decode cX8_order 1 = .ok (.iconst 0, 1) := by decide +kernel
theorem dX8_order_2 : decode cX8_order 2 = .ok (.putfield 65, 3) := by decide +kernel
theorem dX8_order_5 : decode cX8_order 5 = .ok (.iload_n 1, 1) := by decide +kernel
theorem dX8_order_6 : decode cX8_order 6 = .ok (.ifCond .ge 5, 3) := by decide +kernel
theorem dX8_order_9 : decode cX8_order 9 = .ok (.iconst (-1), 1) := by decide +kernel
theorem dX8_order_10 : decode cX8_order 10 = .ok (.ireturn, 1) := by decide +kernel
theorem dX8_order_11 : decode cX8_order 11 = .ok (.aload_n 0, 1) := by decide +kernel
theorem dX8_order_12 : decode cX8_order 12 = .ok (.iload_n 2, 1) := by decide +kernel
theorem dX8_order_13 : decode cX8_order 13 = .ok (.invokevirtual 267, 3) := by decide +kernel
theorem dX8_order_16 : decode cX8_order 16 = .ok (.iload_n 1, 1) := by decide +kernel
theorem dX8_order_17 : decode cX8_order 17 = .ok (.istore_n 3, 1) := by decide +kernel
theorem dX8_order_18 : decode cX8_order 18 = .ok (.iconst 1, 1) := by decide +kernel
theorem dX8_order_19 : decode cX8_order 19 = .ok (.istore 4, 2) := by decide +kernel
theorem dX8_order_21 : decode cX8_order 21 = .ok (.iload 4, 2) := by decide +kernel
theorem dX8_order_23 : decode cX8_order 23 = .ok (.sipush 300, 3) := by decide +kernel
theorem dX8_order_26 : decode cX8_order 26 = .ok (.if_icmp .gt 39, 3) := by decide +kernel
theorem dX8_order_29 : decode cX8_order 29 = .ok (.aload_n 0, 1) := by decide +kernel
theorem dX8_order_30 : decode cX8_order 30 = .ok (.aload_n 0, 1) := by decide +kernel
theorem dX8_order_31 : decode cX8_order 31 = .ok (.getfield 23, 3) := by decide +kernel
theorem dX8_order_34 : decode cX8_order 34 = .ok (.invokevirtual 261, 3) := by decide +kernel
theorem dX8_order_37 : decode cX8_order 37 = .ok (.aload_n 0, 1) := by decide +kernel
theorem dX8_order_38 : decode cX8_order 38 = .ok (.getfield 151, 3) := by decide +kernel
theorem dX8_order_41 : decode cX8_order 41 = .ok (.ifCond .ge 6, 3) := by decide +kernel
theorem dX8_order_44 : decode cX8_order 44 = .ok (.goto 15, 3) := by decide +kernel
theorem dX8_order_47 : decode cX8_order 47 = .ok (.iload_n 3, 1) := by decide +kernel
theorem dX8_order_48 : decode cX8_order 48 = .ok (.ifCond .ne 8, 3) := by decide +kernel
theorem dX8_order_51 : decode cX8_order 51 = .ok (.aload_n 0, 1) := by decide +kernel
theorem dX8_order_52 : decode cX8_order 52 = .ok (.getfield 151, 3) := by decide +kernel
theorem dX8_order_55 : decode cX8_order 55 = .ok (.ireturn, 1) := by decide +kernel
theorem dX8_order_56 : decode cX8_order 56 = .ok (.iinc 3 (-1), 3) := by decide +kernel
theorem dX8_order_59 : decode cX8_order 59 = .ok (.iinc 4 1, 3) := by decide +kernel
theorem dX8_order_62 : decode cX8_order 62 = .ok (.goto (-41), 3) := by decide +kernel
theorem dX8_order_65 : decode cX8_order 65 = .ok (.iconst (-1), 1) := by decide +kernel
theorem dX8_order_66 : decode cX8_order 66 = .ok (.ireturn, 1) := by decide +kernel
theorem dX8_quiet_0 : decode cX8_quiet 0 = .ok (.aload_n 0, 1) := by decide +kernel
theorem dX8_quiet_1 : decode cX8_quiet 1 = .ok (.iconst 0, 1) := by decide +kernel
theorem dX8_quiet_2 : decode cX8_quiet 2 = .ok (.putfield 65, 3) := by decide +kernel
theorem dX8_quiet_5 : decode cX8_quiet 5 = .ok (.aload_n 0, 1) := by decide +kernel
theorem dX8_quiet_6 : decode cX8_quiet 6 = .ok (.iload_n 1, 1) := by decide +kernel
theorem dX8_quiet_7 : decode cX8_quiet 7 = .ok (.invokevirtual 267, 3) := by decide +kernel
theorem dX8_quiet_10 : decode cX8_quiet 10 = .ok (.iconst 0, 1) := by decide +kernel
theorem dX8_quiet_11 : decode cX8_quiet 11 = .ok (.istore_n 2, 1) := by decide +kernel
theorem dX8_quiet_12 : decode cX8_quiet 12 = .ok (.iload_n 2, 1) := by decide +kernel
theorem dX8_quiet_13 : decode cX8_quiet 13 = .ok (.sipush 300, 3) := by decide +kernel
theorem dX8_quiet_16 : decode cX8_quiet 16 = .ok (.if_icmp .gt 50, 3) := by decide +kernel
theorem dX8_quiet_19 : decode cX8_quiet 19 = .ok (.aload_n 0, 1) := by decide +kernel
theorem dX8_quiet_20 : decode cX8_quiet 20 = .ok (.getfield 23, 3) := by decide +kernel
theorem dX8_quiet_23 : decode cX8_quiet 23 = .ok (.bipush 20, 2) := by decide +kernel
theorem dX8_quiet_25 : decode cX8_quiet 25 = .ok (.iaload, 1) := by decide +kernel
theorem dX8_quiet_26 : decode cX8_quiet 26 = .ok (.ifCond .ne 26, 3) := by decide +kernel
theorem dX8_quiet_29 : decode cX8_quiet 29 = .ok (.aload_n 0, 1) := by decide +kernel
theorem dX8_quiet_30 : decode cX8_quiet 30 = .ok (.getfield 23, 3) := by decide +kernel
theorem dX8_quiet_33 : decode cX8_quiet 33 = .ok (.bipush 30, 2) := by decide +kernel
theorem dX8_quiet_35 : decode cX8_quiet 35 = .ok (.iaload, 1) := by decide +kernel
theorem dX8_quiet_36 : decode cX8_quiet 36 = .ok (.ifCond .ne 16, 3) := by decide +kernel
theorem dX8_quiet_39 : decode cX8_quiet 39 = .ok (.aload_n 0, 1) := by decide +kernel
theorem dX8_quiet_40 : decode cX8_quiet 40 = .ok (.aload_n 0, 1) := by decide +kernel
theorem dX8_quiet_41 : decode cX8_quiet 41 = .ok (.getfield 23, 3) := by decide +kernel
theorem dX8_quiet_44 : decode cX8_quiet 44 = .ok (.invokevirtual 170, 3) := by decide +kernel
theorem dX8_quiet_47 : decode cX8_quiet 47 = .ok (.ifCond .ge 5, 3) := by decide +kernel
theorem dX8_quiet_50 : decode cX8_quiet 50 = .ok (.iload_n 2, 1) := by decide +kernel
theorem dX8_quiet_51 : decode cX8_quiet 51 = .ok (.ireturn, 1) := by decide +kernel
theorem dX8_quiet_52 : decode cX8_quiet 52 = .ok (.aload_n 0, 1) := by decide +kernel
theorem dX8_quiet_53 : decode cX8_quiet 53 = .ok (.aload_n 0, 1) := by decide +kernel
theorem dX8_quiet_54 : decode cX8_quiet 54 = .ok (.getfield 23, 3) := by decide +kernel
theorem dX8_quiet_57 : decode cX8_quiet 57 = .ok (.invokevirtual 261, 3) := by decide +kernel
theorem dX8_quiet_60 : decode cX8_quiet 60 = .ok (.iinc 2 1, 3) := by decide +kernel
theorem dX8_quiet_63 : decode cX8_quiet 63 = .ok (.goto (-51), 3) := by decide +kernel
theorem dX8_quiet_66 : decode cX8_quiet 66 = .ok (.iconst (-1), 1) := by decide +kernel
theorem dX8_quiet_67 : decode cX8_quiet 67 = .ok (.ireturn, 1) := by decide +kernel
theorem dX8_window_0 : decode cX8_window 0 = .ok (.aload_n 0, 1) := by decide +kernel
theorem dX8_window_1 : decode cX8_window 1 = .ok (.iconst 0, 1) := by decide +kernel
theorem dX8_window_2 : decode cX8_window 2 = .ok (.putfield 65, 3) := by decide +kernel
theorem dX8_window_5 : decode cX8_window 5 = .ok (.iload_n 1, 1) := by decide +kernel
theorem dX8_window_6 : decode cX8_window 6 = .ok (.iconst 0, 1) := by decide +kernel
theorem dX8_window_7 : decode cX8_window 7 = .ok (.bipush 17, 2) := by decide +kernel
theorem dX8_window_9 : decode cX8_window 9 = .ok (.invokestatic 195, 3) := by decide +kernel
theorem dX8_window_12 : decode cX8_window 12 = .ok (.ifCond .ne 5, 3) := by decide +kernel
theorem dX8_window_15 : decode cX8_window 15 = .ok (.iconst (-1), 1) := by decide +kernel
theorem dX8_window_16 : decode cX8_window 16 = .ok (.ireturn, 1) := by decide +kernel
theorem dX8_window_17 : decode cX8_window 17 = .ok (.iconst 0, 1) := by decide +kernel
theorem dX8_window_18 : decode cX8_window 18 = .ok (.istore_n 2, 1) := by decide +kernel
theorem dX8_window_19 : decode cX8_window 19 = .ok (.iconst 0, 1) := by decide +kernel
theorem dX8_window_20 : decode cX8_window 20 = .ok (.istore_n 3, 1) := by decide +kernel
theorem dX8_window_21 : decode cX8_window 21 = .ok (.iload_n 3, 1) := by decide +kernel
theorem dX8_window_22 : decode cX8_window 22 = .ok (.bipush 20, 2) := by decide +kernel
theorem dX8_window_24 : decode cX8_window 24 = .ok (.if_icmp .ge 96, 3) := by decide +kernel
theorem dX8_window_27 : decode cX8_window 27 = .ok (.aload_n 0, 1) := by decide +kernel
theorem dX8_window_28 : decode cX8_window 28 = .ok (.iconst 0, 1) := by decide +kernel
theorem dX8_window_29 : decode cX8_window 29 = .ok (.invokevirtual 267, 3) := by decide +kernel
theorem dX8_window_32 : decode cX8_window 32 = .ok (.iconst 0, 1) := by decide +kernel
theorem dX8_window_33 : decode cX8_window 33 = .ok (.istore 4, 2) := by decide +kernel
theorem dX8_window_35 : decode cX8_window 35 = .ok (.iload 4, 2) := by decide +kernel
theorem dX8_window_37 : decode cX8_window 37 = .ok (.iload_n 3, 1) := by decide +kernel
theorem dX8_window_38 : decode cX8_window 38 = .ok (.if_icmp .ge 17, 3) := by decide +kernel
theorem dX8_window_41 : decode cX8_window 41 = .ok (.aload_n 0, 1) := by decide +kernel
theorem dX8_window_42 : decode cX8_window 42 = .ok (.aload_n 0, 1) := by decide +kernel
theorem dX8_window_43 : decode cX8_window 43 = .ok (.getfield 23, 3) := by decide +kernel
theorem dX8_window_46 : decode cX8_window 46 = .ok (.invokevirtual 261, 3) := by decide +kernel
theorem dX8_window_49 : decode cX8_window 49 = .ok (.iinc 4 1, 3) := by decide +kernel
theorem dX8_window_52 : decode cX8_window 52 = .ok (.goto (-17), 3) := by decide +kernel
theorem dX8_window_55 : decode cX8_window 55 = .ok (.aload_n 0, 1) := by decide +kernel
theorem dX8_window_56 : decode cX8_window 56 = .ok (.aload_n 0, 1) := by decide +kernel
theorem dX8_window_57 : decode cX8_window 57 = .ok (.getfield 23, 3) := by decide +kernel
theorem dX8_window_60 : decode cX8_window 60 = .ok (.iload_n 1, 1) := by decide +kernel
theorem dX8_window_61 : decode cX8_window 61 = .ok (.invokevirtual 143, 3) := by decide +kernel
theorem dX8_window_64 : decode cX8_window 64 = .ok (.aload_n 0, 1) := by decide +kernel
theorem dX8_window_65 : decode cX8_window 65 = .ok (.iconst (-1), 1) := by decide +kernel
theorem dX8_window_66 : decode cX8_window 66 = .ok (.putfield 151, 3) := by decide +kernel
theorem dX8_window_69 : decode cX8_window 69 = .ok (.iconst 0, 1) := by decide +kernel
theorem dX8_window_70 : decode cX8_window 70 = .ok (.istore 4, 2) := by decide +kernel
theorem dX8_window_72 : decode cX8_window 72 = .ok (.iload 4, 2) := by decide +kernel
theorem dX8_window_74 : decode cX8_window 74 = .ok (.bipush 40, 2) := by decide +kernel
theorem dX8_window_76 : decode cX8_window 76 = .ok (.if_icmp .ge 24, 3) := by decide +kernel
theorem dX8_window_79 : decode cX8_window 79 = .ok (.aload_n 0, 1) := by decide +kernel
theorem dX8_window_80 : decode cX8_window 80 = .ok (.getfield 151, 3) := by decide +kernel
theorem dX8_window_83 : decode cX8_window 83 = .ok (.ifCond .ge 17, 3) := by decide +kernel
theorem dX8_window_86 : decode cX8_window 86 = .ok (.aload_n 0, 1) := by decide +kernel
theorem dX8_window_87 : decode cX8_window 87 = .ok (.aload_n 0, 1) := by decide +kernel
theorem dX8_window_88 : decode cX8_window 88 = .ok (.getfield 23, 3) := by decide +kernel
theorem dX8_window_91 : decode cX8_window 91 = .ok (.invokevirtual 261, 3) := by decide +kernel
theorem dX8_window_94 : decode cX8_window 94 = .ok (.iinc 4 1, 3) := by decide +kernel
theorem dX8_window_97 : decode cX8_window 97 = .ok (.goto (-25), 3) := by decide +kernel
theorem dX8_window_100 : decode cX8_window 100 = .ok (.aload_n 0, 1) := by decide +kernel
theorem dX8_window_101 : decode cX8_window 101 = .ok (.getfield 151, 3) := by decide +kernel
theorem dX8_window_104 : decode cX8_window 104 = .ok (.iload_n 1, 1) := by decide +kernel
theorem dX8_window_105 : decode cX8_window 105 = .ok (.if_icmp .ne 9, 3) := by decide +kernel
theorem dX8_window_108 : decode cX8_window 108 = .ok (.iload_n 2, 1) := by decide +kernel
theorem dX8_window_109 : decode cX8_window 109 = .ok (.iconst 1, 1) := by decide +kernel
theorem dX8_window_110 : decode cX8_window 110 = .ok (.iload_n 3, 1) := by decide +kernel
theorem dX8_window_111 : decode cX8_window 111 = .ok (.ishl, 1) := by decide +kernel
theorem dX8_window_112 : decode cX8_window 112 = .ok (.ior, 1) := by decide +kernel
theorem dX8_window_113 : decode cX8_window 113 = .ok (.istore_n 2, 1) := by decide +kernel
theorem dX8_window_114 : decode cX8_window 114 = .ok (.iinc 3 1, 3) := by decide +kernel
theorem dX8_window_117 : decode cX8_window 117 = .ok (.goto (-96), 3) := by decide +kernel
theorem dX8_window_120 : decode cX8_window 120 = .ok (.iload_n 2, 1) := by decide +kernel
theorem dX8_window_121 : decode cX8_window 121 = .ok (.ireturn, 1) := by decide +kernel
theorem dX8_keeps_0 : decode cX8_keeps 0 = .ok (.aload_n 0, 1) := by decide +kernel
theorem dX8_keeps_1 : decode cX8_keeps 1 = .ok (.iconst 0, 1) := by decide +kernel
theorem dX8_keeps_2 : decode cX8_keeps 2 = .ok (.putfield 65, 3) := by decide +kernel
theorem dX8_keeps_5 : decode cX8_keeps 5 = .ok (.aload_n 0, 1) := by decide +kernel
theorem dX8_keeps_6 : decode cX8_keeps 6 = .ok (.getfield 20, 3) := by decide +kernel
theorem dX8_keeps_9 : decode cX8_keeps 9 = .ok (.bipush 20, 2) := by decide +kernel
theorem dX8_keeps_11 : decode cX8_keeps 11 = .ok (.iaload, 1) := by decide +kernel
theorem dX8_keeps_12 : decode cX8_keeps 12 = .ok (.ifCond .ne 24, 3) := by decide +kernel
theorem dX8_keeps_15 : decode cX8_keeps 15 = .ok (.aload_n 0, 1) := by decide +kernel
theorem dX8_keeps_16 : decode cX8_keeps 16 = .ok (.getfield 20, 3) := by decide +kernel
theorem dX8_keeps_19 : decode cX8_keeps 19 = .ok (.bipush 22, 2) := by decide +kernel
theorem dX8_keeps_21 : decode cX8_keeps 21 = .ok (.iaload, 1) := by decide +kernel
theorem dX8_keeps_22 : decode cX8_keeps 22 = .ok (.ifCond .ne 14, 3) := by decide +kernel
theorem dX8_keeps_25 : decode cX8_keeps 25 = .ok (.aload_n 0, 1) := by decide +kernel
theorem dX8_keeps_26 : decode cX8_keeps 26 = .ok (.aload_n 0, 1) := by decide +kernel
theorem dX8_keeps_27 : decode cX8_keeps 27 = .ok (.getfield 20, 3) := by decide +kernel
theorem dX8_keeps_30 : decode cX8_keeps 30 = .ok (.invokevirtual 170, 3) := by decide +kernel
theorem dX8_keeps_33 : decode cX8_keeps 33 = .ok (.ifCond .ge 5, 3) := by decide +kernel
theorem dX8_keeps_36 : decode cX8_keeps 36 = .ok (.iconst (-1), 1) := by decide +kernel
theorem dX8_keeps_37 : decode cX8_keeps 37 = .ok (.ireturn, 1) := by decide +kernel
theorem dX8_keeps_38 : decode cX8_keeps 38 = .ok (.aload_n 0, 1) := by decide +kernel
theorem dX8_keeps_39 : decode cX8_keeps 39 = .ok (.iconst 0, 1) := by decide +kernel
theorem dX8_keeps_40 : decode cX8_keeps 40 = .ok (.invokevirtual 267, 3) := by decide +kernel
theorem dX8_keeps_43 : decode cX8_keeps 43 = .ok (.iconst 0, 1) := by decide +kernel
theorem dX8_keeps_44 : decode cX8_keeps 44 = .ok (.istore_n 1, 1) := by decide +kernel
theorem dX8_keeps_45 : decode cX8_keeps 45 = .ok (.iconst 0, 1) := by decide +kernel
theorem dX8_keeps_46 : decode cX8_keeps 46 = .ok (.istore_n 2, 1) := by decide +kernel
theorem dX8_keeps_47 : decode cX8_keeps 47 = .ok (.iload_n 2, 1) := by decide +kernel
theorem dX8_keeps_48 : decode cX8_keeps 48 = .ok (.sipush 300, 3) := by decide +kernel
theorem dX8_keeps_51 : decode cX8_keeps 51 = .ok (.if_icmp .ge 80, 3) := by decide +kernel
theorem dX8_keeps_54 : decode cX8_keeps 54 = .ok (.aload_n 0, 1) := by decide +kernel
theorem dX8_keeps_55 : decode cX8_keeps 55 = .ok (.aload_n 0, 1) := by decide +kernel
theorem dX8_keeps_56 : decode cX8_keeps 56 = .ok (.getfield 23, 3) := by decide +kernel
theorem dX8_keeps_59 : decode cX8_keeps 59 = .ok (.invokevirtual 261, 3) := by decide +kernel
theorem dX8_keeps_62 : decode cX8_keeps 62 = .ok (.aload_n 0, 1) := by decide +kernel
theorem dX8_keeps_63 : decode cX8_keeps 63 = .ok (.getfield 23, 3) := by decide +kernel
theorem dX8_keeps_66 : decode cX8_keeps 66 = .ok (.bipush 30, 2) := by decide +kernel
theorem dX8_keeps_68 : decode cX8_keeps 68 = .ok (.iaload, 1) := by decide +kernel
theorem dX8_keeps_69 : decode cX8_keeps 69 = .ok (.aload_n 0, 1) := by decide +kernel
theorem dX8_keeps_70 : decode cX8_keeps 70 = .ok (.getfield 20, 3) := by decide +kernel
theorem dX8_keeps_73 : decode cX8_keeps 73 = .ok (.bipush 30, 2) := by decide +kernel
theorem dX8_keeps_75 : decode cX8_keeps 75 = .ok (.iaload, 1) := by decide +kernel
theorem dX8_keeps_76 : decode cX8_keeps 76 = .ok (.if_icmp .le 5, 3) := by decide +kernel
theorem dX8_keeps_79 : decode cX8_keeps 79 = .ok (.iconst 1, 1) := by decide +kernel
theorem dX8_keeps_80 : decode cX8_keeps 80 = .ok (.istore_n 1, 1) := by decide +kernel
theorem dX8_keeps_81 : decode cX8_keeps 81 = .ok (.iload_n 1, 1) := by decide +kernel
theorem dX8_keeps_82 : decode cX8_keeps 82 = .ok (.ifCond .eq 43, 3) := by decide +kernel
theorem dX8_keeps_85 : decode cX8_keeps 85 = .ok (.aload_n 0, 1) := by decide +kernel
theorem dX8_keeps_86 : decode cX8_keeps 86 = .ok (.getfield 23, 3) := by decide +kernel
theorem dX8_keeps_89 : decode cX8_keeps 89 = .ok (.bipush 30, 2) := by decide +kernel
theorem dX8_keeps_91 : decode cX8_keeps 91 = .ok (.iaload, 1) := by decide +kernel
theorem dX8_keeps_92 : decode cX8_keeps 92 = .ok (.aload_n 0, 1) := by decide +kernel
theorem dX8_keeps_93 : decode cX8_keeps 93 = .ok (.getfield 20, 3) := by decide +kernel
theorem dX8_keeps_96 : decode cX8_keeps 96 = .ok (.bipush 30, 2) := by decide +kernel
theorem dX8_keeps_98 : decode cX8_keeps 98 = .ok (.iaload, 1) := by decide +kernel
theorem dX8_keeps_99 : decode cX8_keeps 99 = .ok (.if_icmp .ne 26, 3) := by decide +kernel
theorem dX8_keeps_102 : decode cX8_keeps 102 = .ok (.aload_n 0, 1) := by decide +kernel
theorem dX8_keeps_103 : decode cX8_keeps 103 = .ok (.getfield 23, 3) := by decide +kernel
theorem dX8_keeps_106 : decode cX8_keeps 106 = .ok (.bipush 20, 2) := by decide +kernel
theorem dX8_keeps_108 : decode cX8_keeps 108 = .ok (.iaload, 1) := by decide +kernel
theorem dX8_keeps_109 : decode cX8_keeps 109 = .ok (.ifCond .ne 16, 3) := by decide +kernel
theorem dX8_keeps_112 : decode cX8_keeps 112 = .ok (.aload_n 0, 1) := by decide +kernel
theorem dX8_keeps_113 : decode cX8_keeps 113 = .ok (.invokevirtual 271, 3) := by decide +kernel
theorem dX8_keeps_116 : decode cX8_keeps 116 = .ok (.ifCond .eq 7, 3) := by decide +kernel
theorem dX8_keeps_119 : decode cX8_keeps 119 = .ok (.iconst 1, 1) := by decide +kernel
theorem dX8_keeps_120 : decode cX8_keeps 120 = .ok (.goto 4, 3) := by decide +kernel
theorem dX8_keeps_123 : decode cX8_keeps 123 = .ok (.iconst 0, 1) := by decide +kernel
theorem dX8_keeps_124 : decode cX8_keeps 124 = .ok (.ireturn, 1) := by decide +kernel
theorem dX8_keeps_125 : decode cX8_keeps 125 = .ok (.iinc 2 1, 3) := by decide +kernel
theorem dX8_keeps_128 : decode cX8_keeps 128 = .ok (.goto (-81), 3) := by decide +kernel
theorem dX8_keeps_131 : decode cX8_keeps 131 = .ok (.iconst (-1), 1) := by decide +kernel
theorem dX8_keeps_132 : decode cX8_keeps 132 = .ok (.ireturn, 1) := by decide +kernel
theorem dX8_isLikeNow_0 : decode cX8_isLikeNow 0 = .ok (.iconst 0, 1) := by decide +kernel
theorem dX8_isLikeNow_1 : decode cX8_isLikeNow 1 = .ok (.istore_n 1, 1) := by decide +kernel
theorem dX8_isLikeNow_2 : decode cX8_isLikeNow 2 = .ok (.iload_n 1, 1) := by decide +kernel
theorem dX8_isLikeNow_3 : decode cX8_isLikeNow 3 = .ok (.iconst 4, 1) := by decide +kernel
theorem dX8_isLikeNow_4 : decode cX8_isLikeNow 4 = .ok (.if_icmp .ge 51, 3) := by decide +kernel
theorem dX8_isLikeNow_7 : decode cX8_isLikeNow 7 = .ok (.aload_n 0, 1) := by decide +kernel
theorem dX8_isLikeNow_8 : decode cX8_isLikeNow 8 = .ok (.getfield 23, 3) := by decide +kernel
theorem dX8_isLikeNow_11 : decode cX8_isLikeNow 11 = .ok (.iconst 0, 1) := by decide +kernel
theorem dX8_isLikeNow_12 : decode cX8_isLikeNow 12 = .ok (.iload_n 1, 1) := by decide +kernel
theorem dX8_isLikeNow_13 : decode cX8_isLikeNow 13 = .ok (.iadd, 1) := by decide +kernel
theorem dX8_isLikeNow_14 : decode cX8_isLikeNow 14 = .ok (.iaload, 1) := by decide +kernel
theorem dX8_isLikeNow_15 : decode cX8_isLikeNow 15 = .ok (.aload_n 0, 1) := by decide +kernel
theorem dX8_isLikeNow_16 : decode cX8_isLikeNow 16 = .ok (.getfield 20, 3) := by decide +kernel
theorem dX8_isLikeNow_19 : decode cX8_isLikeNow 19 = .ok (.iconst 0, 1) := by decide +kernel
theorem dX8_isLikeNow_20 : decode cX8_isLikeNow 20 = .ok (.iload_n 1, 1) := by decide +kernel
theorem dX8_isLikeNow_21 : decode cX8_isLikeNow 21 = .ok (.iadd, 1) := by decide +kernel
theorem dX8_isLikeNow_22 : decode cX8_isLikeNow 22 = .ok (.iaload, 1) := by decide +kernel
theorem dX8_isLikeNow_23 : decode cX8_isLikeNow 23 = .ok (.if_icmp .ne 24, 3) := by decide +kernel
theorem dX8_isLikeNow_26 : decode cX8_isLikeNow 26 = .ok (.aload_n 0, 1) := by decide +kernel
theorem dX8_isLikeNow_27 : decode cX8_isLikeNow 27 = .ok (.getfield 23, 3) := by decide +kernel
theorem dX8_isLikeNow_30 : decode cX8_isLikeNow 30 = .ok (.bipush 8, 2) := by decide +kernel
theorem dX8_isLikeNow_32 : decode cX8_isLikeNow 32 = .ok (.iload_n 1, 1) := by decide +kernel
theorem dX8_isLikeNow_33 : decode cX8_isLikeNow 33 = .ok (.iadd, 1) := by decide +kernel
theorem dX8_isLikeNow_34 : decode cX8_isLikeNow 34 = .ok (.iaload, 1) := by decide +kernel
theorem dX8_isLikeNow_35 : decode cX8_isLikeNow 35 = .ok (.aload_n 0, 1) := by decide +kernel
theorem dX8_isLikeNow_36 : decode cX8_isLikeNow 36 = .ok (.getfield 20, 3) := by decide +kernel
theorem dX8_isLikeNow_39 : decode cX8_isLikeNow 39 = .ok (.bipush 8, 2) := by decide +kernel
theorem dX8_isLikeNow_41 : decode cX8_isLikeNow 41 = .ok (.iload_n 1, 1) := by decide +kernel
theorem dX8_isLikeNow_42 : decode cX8_isLikeNow 42 = .ok (.iadd, 1) := by decide +kernel
theorem dX8_isLikeNow_43 : decode cX8_isLikeNow 43 = .ok (.iaload, 1) := by decide +kernel
theorem dX8_isLikeNow_44 : decode cX8_isLikeNow 44 = .ok (.if_icmp .eq 5, 3) := by decide +kernel
theorem dX8_isLikeNow_47 : decode cX8_isLikeNow 47 = .ok (.iconst 0, 1) := by decide +kernel
theorem dX8_isLikeNow_48 : decode cX8_isLikeNow 48 = .ok (.ireturn, 1) := by decide +kernel
theorem dX8_isLikeNow_49 : decode cX8_isLikeNow 49 = .ok (.iinc 1 1, 3) := by decide +kernel
theorem dX8_isLikeNow_52 : decode cX8_isLikeNow 52 = .ok (.goto (-50), 3) := by decide +kernel
theorem dX8_isLikeNow_55 : decode cX8_isLikeNow 55 = .ok (.aload_n 0, 1) := by decide +kernel
theorem dX8_isLikeNow_56 : decode cX8_isLikeNow 56 = .ok (.getfield 23, 3) := by decide +kernel
theorem dX8_isLikeNow_59 : decode cX8_isLikeNow 59 = .ok (.bipush 12, 2) := by decide +kernel
theorem dX8_isLikeNow_61 : decode cX8_isLikeNow 61 = .ok (.iaload, 1) := by decide +kernel
theorem dX8_isLikeNow_62 : decode cX8_isLikeNow 62 = .ok (.aload_n 0, 1) := by decide +kernel
theorem dX8_isLikeNow_63 : decode cX8_isLikeNow 63 = .ok (.getfield 20, 3) := by decide +kernel
theorem dX8_isLikeNow_66 : decode cX8_isLikeNow 66 = .ok (.bipush 12, 2) := by decide +kernel
theorem dX8_isLikeNow_68 : decode cX8_isLikeNow 68 = .ok (.iaload, 1) := by decide +kernel
theorem dX8_isLikeNow_69 : decode cX8_isLikeNow 69 = .ok (.if_icmp .ne 58, 3) := by decide +kernel
theorem dX8_isLikeNow_72 : decode cX8_isLikeNow 72 = .ok (.aload_n 0, 1) := by decide +kernel
theorem dX8_isLikeNow_73 : decode cX8_isLikeNow 73 = .ok (.getfield 23, 3) := by decide +kernel
theorem dX8_isLikeNow_76 : decode cX8_isLikeNow 76 = .ok (.bipush 13, 2) := by decide +kernel
theorem dX8_isLikeNow_78 : decode cX8_isLikeNow 78 = .ok (.iaload, 1) := by decide +kernel
theorem dX8_isLikeNow_79 : decode cX8_isLikeNow 79 = .ok (.aload_n 0, 1) := by decide +kernel
theorem dX8_isLikeNow_80 : decode cX8_isLikeNow 80 = .ok (.getfield 20, 3) := by decide +kernel
theorem dX8_isLikeNow_83 : decode cX8_isLikeNow 83 = .ok (.bipush 13, 2) := by decide +kernel
theorem dX8_isLikeNow_85 : decode cX8_isLikeNow 85 = .ok (.iaload, 1) := by decide +kernel
theorem dX8_isLikeNow_86 : decode cX8_isLikeNow 86 = .ok (.if_icmp .ne 41, 3) := by decide +kernel
theorem dX8_isLikeNow_89 : decode cX8_isLikeNow 89 = .ok (.aload_n 0, 1) := by decide +kernel
theorem dX8_isLikeNow_90 : decode cX8_isLikeNow 90 = .ok (.getfield 23, 3) := by decide +kernel
theorem dX8_isLikeNow_93 : decode cX8_isLikeNow 93 = .ok (.bipush 14, 2) := by decide +kernel
theorem dX8_isLikeNow_95 : decode cX8_isLikeNow 95 = .ok (.iaload, 1) := by decide +kernel
theorem dX8_isLikeNow_96 : decode cX8_isLikeNow 96 = .ok (.aload_n 0, 1) := by decide +kernel
theorem dX8_isLikeNow_97 : decode cX8_isLikeNow 97 = .ok (.getfield 20, 3) := by decide +kernel
theorem dX8_isLikeNow_100 : decode cX8_isLikeNow 100 = .ok (.bipush 14, 2) := by decide +kernel
theorem dX8_isLikeNow_102 : decode cX8_isLikeNow 102 = .ok (.iaload, 1) := by decide +kernel
theorem dX8_isLikeNow_103 : decode cX8_isLikeNow 103 = .ok (.if_icmp .ne 24, 3) := by decide +kernel
theorem dX8_isLikeNow_106 : decode cX8_isLikeNow 106 = .ok (.aload_n 0, 1) := by decide +kernel
theorem dX8_isLikeNow_107 : decode cX8_isLikeNow 107 = .ok (.getfield 23, 3) := by decide +kernel
theorem dX8_isLikeNow_110 : decode cX8_isLikeNow 110 = .ok (.bipush 15, 2) := by decide +kernel
theorem dX8_isLikeNow_112 : decode cX8_isLikeNow 112 = .ok (.iaload, 1) := by decide +kernel
theorem dX8_isLikeNow_113 : decode cX8_isLikeNow 113 = .ok (.aload_n 0, 1) := by decide +kernel
theorem dX8_isLikeNow_114 : decode cX8_isLikeNow 114 = .ok (.getfield 20, 3) := by decide +kernel
theorem dX8_isLikeNow_117 : decode cX8_isLikeNow 117 = .ok (.bipush 15, 2) := by decide +kernel
theorem dX8_isLikeNow_119 : decode cX8_isLikeNow 119 = .ok (.iaload, 1) := by decide +kernel
theorem dX8_isLikeNow_120 : decode cX8_isLikeNow 120 = .ok (.if_icmp .ne 7, 3) := by decide +kernel
theorem dX8_isLikeNow_123 : decode cX8_isLikeNow 123 = .ok (.iconst 1, 1) := by decide +kernel
theorem dX8_isLikeNow_124 : decode cX8_isLikeNow 124 = .ok (.goto 4, 3) := by decide +kernel
theorem dX8_isLikeNow_127 : decode cX8_isLikeNow 127 = .ok (.iconst 0, 1) := by decide +kernel
theorem dX8_isLikeNow_128 : decode cX8_isLikeNow 128 = .ok (.ireturn, 1) := by decide +kernel
theorem dX8_branches_0 : decode cX8_branches 0 = .ok (.aload_n 0, 1) := by decide +kernel
theorem dX8_branches_1 : decode cX8_branches 1 = .ok (.getfield 7, 3) := by decide +kernel
theorem dX8_branches_4 : decode cX8_branches 4 = .ok (.iload_n 1, 1) := by decide +kernel
theorem dX8_branches_5 : decode cX8_branches 5 = .ok (.iaload, 1) := by decide +kernel
theorem dX8_branches_6 : decode cX8_branches 6 = .ok (.bipush 12, 2) := by decide +kernel
theorem dX8_branches_8 : decode cX8_branches 8 = .ok (.if_icmp .eq 14, 3) := by decide +kernel
theorem dX8_branches_11 : decode cX8_branches 11 = .ok (.aload_n 0, 1) := by decide +kernel
theorem dX8_branches_12 : decode cX8_branches 12 = .ok (.getfield 7, 3) := by decide +kernel
theorem dX8_branches_15 : decode cX8_branches 15 = .ok (.iload_n 1, 1) := by decide +kernel
theorem dX8_branches_16 : decode cX8_branches 16 = .ok (.iaload, 1) := by decide +kernel
theorem dX8_branches_17 : decode cX8_branches 17 = .ok (.bipush 13, 2) := by decide +kernel
theorem dX8_branches_19 : decode cX8_branches 19 = .ok (.if_icmp .ne 7, 3) := by decide +kernel
theorem dX8_branches_22 : decode cX8_branches 22 = .ok (.iconst 1, 1) := by decide +kernel
theorem dX8_branches_23 : decode cX8_branches 23 = .ok (.goto 4, 3) := by decide +kernel
theorem dX8_branches_26 : decode cX8_branches 26 = .ok (.iconst 0, 1) := by decide +kernel
theorem dX8_branches_27 : decode cX8_branches 27 = .ok (.ireturn, 1) := by decide +kernel
theorem dX8_goesTo_0 : decode cX8_goesTo 0 = .ok (.aload_n 0, 1) := by decide +kernel
theorem dX8_goesTo_1 : decode cX8_goesTo 1 = .ok (.getfield 7, 3) := by decide +kernel
theorem dX8_goesTo_4 : decode cX8_goesTo 4 = .ok (.iload_n 1, 1) := by decide +kernel
theorem dX8_goesTo_5 : decode cX8_goesTo 5 = .ok (.iaload, 1) := by decide +kernel
theorem dX8_goesTo_6 : decode cX8_goesTo 6 = .ok (.bipush 11, 2) := by decide +kernel
theorem dX8_goesTo_8 : decode cX8_goesTo 8 = .ok (.if_icmp .eq 8, 3) := by decide +kernel
theorem dX8_goesTo_11 : decode cX8_goesTo 11 = .ok (.iload_n 2, 1) := by decide +kernel
theorem dX8_goesTo_12 : decode cX8_goesTo 12 = .ok (.iconst 1, 1) := by decide +kernel
theorem dX8_goesTo_13 : decode cX8_goesTo 13 = .ok (.if_icmp .ne 39, 3) := by decide +kernel
theorem dX8_goesTo_16 : decode cX8_goesTo 16 = .ok (.sipush 256, 3) := by decide +kernel
theorem dX8_goesTo_19 : decode cX8_goesTo 19 = .ok (.aload_n 0, 1) := by decide +kernel
theorem dX8_goesTo_20 : decode cX8_goesTo 20 = .ok (.getfield 7, 3) := by decide +kernel
theorem dX8_goesTo_23 : decode cX8_goesTo 23 = .ok (.iload_n 1, 1) := by decide +kernel
theorem dX8_goesTo_24 : decode cX8_goesTo 24 = .ok (.iconst 1, 1) := by decide +kernel
theorem dX8_goesTo_25 : decode cX8_goesTo 25 = .ok (.iadd, 1) := by decide +kernel
theorem dX8_goesTo_26 : decode cX8_goesTo 26 = .ok (.sipush 512, 3) := by decide +kernel
theorem dX8_goesTo_29 : decode cX8_goesTo 29 = .ok (.irem, 1) := by decide +kernel
theorem dX8_goesTo_30 : decode cX8_goesTo 30 = .ok (.iaload, 1) := by decide +kernel
theorem dX8_goesTo_31 : decode cX8_goesTo 31 = .ok (.imul, 1) := by decide +kernel
theorem dX8_goesTo_32 : decode cX8_goesTo 32 = .ok (.aload_n 0, 1) := by decide +kernel
theorem dX8_goesTo_33 : decode cX8_goesTo 33 = .ok (.getfield 7, 3) := by decide +kernel
theorem dX8_goesTo_36 : decode cX8_goesTo 36 = .ok (.iload_n 1, 1) := by decide +kernel
theorem dX8_goesTo_37 : decode cX8_goesTo 37 = .ok (.iconst 2, 1) := by decide +kernel
theorem dX8_goesTo_38 : decode cX8_goesTo 38 = .ok (.iadd, 1) := by decide +kernel
theorem dX8_goesTo_39 : decode cX8_goesTo 39 = .ok (.sipush 512, 3) := by decide +kernel
theorem dX8_goesTo_42 : decode cX8_goesTo 42 = .ok (.irem, 1) := by decide +kernel
theorem dX8_goesTo_43 : decode cX8_goesTo 43 = .ok (.iaload, 1) := by decide +kernel
theorem dX8_goesTo_44 : decode cX8_goesTo 44 = .ok (.iadd, 1) := by decide +kernel
theorem dX8_goesTo_45 : decode cX8_goesTo 45 = .ok (.sipush 512, 3) := by decide +kernel
theorem dX8_goesTo_48 : decode cX8_goesTo 48 = .ok (.irem, 1) := by decide +kernel
theorem dX8_goesTo_49 : decode cX8_goesTo 49 = .ok (.goto 19, 3) := by decide +kernel
theorem dX8_goesTo_52 : decode cX8_goesTo 52 = .ok (.iload_n 1, 1) := by decide +kernel
theorem dX8_goesTo_53 : decode cX8_goesTo 53 = .ok (.getstatic 223, 3) := by decide +kernel
theorem dX8_goesTo_56 : decode cX8_goesTo 56 = .ok (.aload_n 0, 1) := by decide +kernel
theorem dX8_goesTo_57 : decode cX8_goesTo 57 = .ok (.getfield 7, 3) := by decide +kernel
theorem dX8_goesTo_60 : decode cX8_goesTo 60 = .ok (.iload_n 1, 1) := by decide +kernel
theorem dX8_goesTo_61 : decode cX8_goesTo 61 = .ok (.iaload, 1) := by decide +kernel
theorem dX8_goesTo_62 : decode cX8_goesTo 62 = .ok (.iaload, 1) := by decide +kernel
theorem dX8_goesTo_63 : decode cX8_goesTo 63 = .ok (.iadd, 1) := by decide +kernel
theorem dX8_goesTo_64 : decode cX8_goesTo 64 = .ok (.sipush 512, 3) := by decide +kernel
theorem dX8_goesTo_67 : decode cX8_goesTo 67 = .ok (.irem, 1) := by decide +kernel
theorem dX8_goesTo_68 : decode cX8_goesTo 68 = .ok (.ireturn, 1) := by decide +kernel
theorem dX8_meets_0 : decode cX8_meets 0 = .ok (.iconst 0, 1) := by decide +kernel
theorem dX8_meets_1 : decode cX8_meets 1 = .ok (.istore_n 2, 1) := by decide +kernel
theorem dX8_meets_2 : decode cX8_meets 2 = .ok (.iload_n 2, 1) := by decide +kernel
theorem dX8_meets_3 : decode cX8_meets 3 = .ok (.sipush 512, 3) := by decide +kernel
theorem dX8_meets_6 : decode cX8_meets 6 = .ok (.if_icmp .ge 37, 3) := by decide +kernel
theorem dX8_meets_9 : decode cX8_meets 9 = .ok (.aload_n 0, 1) := by decide +kernel
theorem dX8_meets_10 : decode cX8_meets 10 = .ok (.getfield 47, 3) := by decide +kernel
theorem dX8_meets_13 : decode cX8_meets 13 = .ok (.iload_n 2, 1) := by decide +kernel
theorem dX8_meets_14 : decode cX8_meets 14 = .ok (.iconst 0, 1) := by decide +kernel
theorem dX8_meets_15 : decode cX8_meets 15 = .ok (.bastore, 1) := by decide +kernel
theorem dX8_meets_16 : decode cX8_meets 16 = .ok (.aload_n 0, 1) := by decide +kernel
theorem dX8_meets_17 : decode cX8_meets 17 = .ok (.getfield 50, 3) := by decide +kernel
theorem dX8_meets_20 : decode cX8_meets 20 = .ok (.iload_n 2, 1) := by decide +kernel
theorem dX8_meets_21 : decode cX8_meets 21 = .ok (.iconst 0, 1) := by decide +kernel
theorem dX8_meets_22 : decode cX8_meets 22 = .ok (.iastore, 1) := by decide +kernel
theorem dX8_meets_23 : decode cX8_meets 23 = .ok (.aload_n 0, 1) := by decide +kernel
theorem dX8_meets_24 : decode cX8_meets 24 = .ok (.getfield 53, 3) := by decide +kernel
theorem dX8_meets_27 : decode cX8_meets 27 = .ok (.iload_n 2, 1) := by decide +kernel
theorem dX8_meets_28 : decode cX8_meets 28 = .ok (.iconst 0, 1) := by decide +kernel
theorem dX8_meets_29 : decode cX8_meets 29 = .ok (.iastore, 1) := by decide +kernel
theorem dX8_meets_30 : decode cX8_meets 30 = .ok (.aload_n 0, 1) := by decide +kernel
theorem dX8_meets_31 : decode cX8_meets 31 = .ok (.getfield 56, 3) := by decide +kernel
theorem dX8_meets_34 : decode cX8_meets 34 = .ok (.iload_n 2, 1) := by decide +kernel
theorem dX8_meets_35 : decode cX8_meets 35 = .ok (.iconst 0, 1) := by decide +kernel
theorem dX8_meets_36 : decode cX8_meets 36 = .ok (.iastore, 1) := by decide +kernel
theorem dX8_meets_37 : decode cX8_meets 37 = .ok (.iinc 2 1, 3) := by decide +kernel
theorem dX8_meets_40 : decode cX8_meets 40 = .ok (.goto (-38), 3) := by decide +kernel
theorem dX8_meets_43 : decode cX8_meets 43 = .ok (.iconst 1, 1) := by decide +kernel
theorem dX8_meets_44 : decode cX8_meets 44 = .ok (.istore_n 2, 1) := by decide +kernel
theorem dX8_meets_45 : decode cX8_meets 45 = .ok (.aload_n 0, 1) := by decide +kernel
theorem dX8_meets_46 : decode cX8_meets 46 = .ok (.getfield 59, 3) := by decide +kernel
theorem dX8_meets_49 : decode cX8_meets 49 = .ok (.iconst 0, 1) := by decide +kernel
theorem dX8_meets_50 : decode cX8_meets 50 = .ok (.iload_n 1, 1) := by decide +kernel
theorem dX8_meets_51 : decode cX8_meets 51 = .ok (.iastore, 1) := by decide +kernel
theorem dX8_meets_52 : decode cX8_meets 52 = .ok (.aload_n 0, 1) := by decide +kernel
theorem dX8_meets_53 : decode cX8_meets 53 = .ok (.getfield 47, 3) := by decide +kernel
theorem dX8_meets_56 : decode cX8_meets 56 = .ok (.iload_n 1, 1) := by decide +kernel
theorem dX8_meets_57 : decode cX8_meets 57 = .ok (.iconst 1, 1) := by decide +kernel
theorem dX8_meets_58 : decode cX8_meets 58 = .ok (.bastore, 1) := by decide +kernel
theorem dX8_meets_59 : decode cX8_meets 59 = .ok (.iconst 0, 1) := by decide +kernel
theorem dX8_meets_60 : decode cX8_meets 60 = .ok (.istore_n 3, 1) := by decide +kernel
theorem dX8_meets_61 : decode cX8_meets 61 = .ok (.iload_n 3, 1) := by decide +kernel
theorem dX8_meets_62 : decode cX8_meets 62 = .ok (.iload_n 2, 1) := by decide +kernel
theorem dX8_meets_63 : decode cX8_meets 63 = .ok (.if_icmp .ge 149, 3) := by decide +kernel
theorem dX8_meets_66 : decode cX8_meets 66 = .ok (.aload_n 0, 1) := by decide +kernel
theorem dX8_meets_67 : decode cX8_meets 67 = .ok (.getfield 59, 3) := by decide +kernel
theorem dX8_meets_70 : decode cX8_meets 70 = .ok (.iload_n 3, 1) := by decide +kernel
theorem dX8_meets_71 : decode cX8_meets 71 = .ok (.iaload, 1) := by decide +kernel
theorem dX8_meets_72 : decode cX8_meets 72 = .ok (.istore 4, 2) := by decide +kernel
theorem dX8_meets_74 : decode cX8_meets 74 = .ok (.aload_n 0, 1) := by decide +kernel
theorem dX8_meets_75 : decode cX8_meets 75 = .ok (.getfield 7, 3) := by decide +kernel
theorem dX8_meets_78 : decode cX8_meets 78 = .ok (.iload 4, 2) := by decide +kernel
theorem dX8_meets_80 : decode cX8_meets 80 = .ok (.iaload, 1) := by decide +kernel
theorem dX8_meets_81 : decode cX8_meets 81 = .ok (.ifCond .eq 27, 3) := by decide +kernel
theorem dX8_meets_84 : decode cX8_meets 84 = .ok (.aload_n 0, 1) := by decide +kernel
theorem dX8_meets_85 : decode cX8_meets 85 = .ok (.getfield 7, 3) := by decide +kernel
theorem dX8_meets_88 : decode cX8_meets 88 = .ok (.iload 4, 2) := by decide +kernel
theorem dX8_meets_90 : decode cX8_meets 90 = .ok (.iaload, 1) := by decide +kernel
theorem dX8_meets_91 : decode cX8_meets 91 = .ok (.bipush 19, 2) := by decide +kernel
theorem dX8_meets_93 : decode cX8_meets 93 = .ok (.if_icmp .eq 15, 3) := by decide +kernel
theorem dX8_meets_96 : decode cX8_meets 96 = .ok (.aload_n 0, 1) := by decide +kernel
theorem dX8_meets_97 : decode cX8_meets 97 = .ok (.getfield 7, 3) := by decide +kernel
theorem dX8_meets_100 : decode cX8_meets 100 = .ok (.iload 4, 2) := by decide +kernel
theorem dX8_meets_102 : decode cX8_meets 102 = .ok (.iaload, 1) := by decide +kernel
theorem dX8_meets_103 : decode cX8_meets 103 = .ok (.bipush 29, 2) := by decide +kernel
theorem dX8_meets_105 : decode cX8_meets 105 = .ok (.if_icmp .le 5, 3) := by decide +kernel
theorem dX8_meets_108 : decode cX8_meets 108 = .ok (.iconst 0, 1) := by decide +kernel
theorem dX8_meets_109 : decode cX8_meets 109 = .ok (.ireturn, 1) := by decide +kernel
theorem dX8_meets_110 : decode cX8_meets 110 = .ok (.aload_n 0, 1) := by decide +kernel
theorem dX8_meets_111 : decode cX8_meets 111 = .ok (.getfield 7, 3) := by decide +kernel
theorem dX8_meets_114 : decode cX8_meets 114 = .ok (.iload 4, 2) := by decide +kernel
theorem dX8_meets_116 : decode cX8_meets 116 = .ok (.iaload, 1) := by decide +kernel
theorem dX8_meets_117 : decode cX8_meets 117 = .ok (.bipush 18, 2) := by decide +kernel
theorem dX8_meets_119 : decode cX8_meets 119 = .ok (.if_icmp .ne 6, 3) := by decide +kernel
theorem dX8_meets_122 : decode cX8_meets 122 = .ok (.goto 84, 3) := by decide +kernel
theorem dX8_meets_125 : decode cX8_meets 125 = .ok (.iconst 0, 1) := by decide +kernel
theorem dX8_meets_126 : decode cX8_meets 126 = .ok (.istore 5, 2) := by decide +kernel
theorem dX8_meets_128 : decode cX8_meets 128 = .ok (.iload 5, 2) := by decide +kernel
theorem dX8_meets_130 : decode cX8_meets 130 = .ok (.aload_n 0, 1) := by decide +kernel
theorem dX8_meets_131 : decode cX8_meets 131 = .ok (.iload 4, 2) := by decide +kernel
theorem dX8_meets_133 : decode cX8_meets 133 = .ok (.invokevirtual 275, 3) := by decide +kernel
theorem dX8_meets_136 : decode cX8_meets 136 = .ok (.ifCond .eq 7, 3) := by decide +kernel
theorem dX8_meets_139 : decode cX8_meets 139 = .ok (.iconst 2, 1) := by decide +kernel
theorem dX8_meets_140 : decode cX8_meets 140 = .ok (.goto 4, 3) := by decide +kernel
theorem dX8_meets_143 : decode cX8_meets 143 = .ok (.iconst 1, 1) := by decide +kernel
theorem dX8_meets_144 : decode cX8_meets 144 = .ok (.if_icmp .ge 62, 3) := by decide +kernel
theorem dX8_meets_147 : decode cX8_meets 147 = .ok (.aload_n 0, 1) := by decide +kernel
theorem dX8_meets_148 : decode cX8_meets 148 = .ok (.iload 4, 2) := by decide +kernel
theorem dX8_meets_150 : decode cX8_meets 150 = .ok (.iload 5, 2) := by decide +kernel
theorem dX8_meets_152 : decode cX8_meets 152 = .ok (.invokevirtual 278, 3) := by decide +kernel
theorem dX8_meets_155 : decode cX8_meets 155 = .ok (.istore 6, 2) := by decide +kernel
theorem dX8_meets_157 : decode cX8_meets 157 = .ok (.aload_n 0, 1) := by decide +kernel
theorem dX8_meets_158 : decode cX8_meets 158 = .ok (.getfield 50, 3) := by decide +kernel
theorem dX8_meets_161 : decode cX8_meets 161 = .ok (.iload 6, 2) := by decide +kernel
theorem dX8_meets_163 : decode cX8_meets 163 = .ok (.dup2, 1) := by decide +kernel
theorem dX8_meets_164 : decode cX8_meets 164 = .ok (.iaload, 1) := by decide +kernel
theorem dX8_meets_165 : decode cX8_meets 165 = .ok (.iconst 1, 1) := by decide +kernel
theorem dX8_meets_166 : decode cX8_meets 166 = .ok (.iadd, 1) := by decide +kernel
theorem dX8_meets_167 : decode cX8_meets 167 = .ok (.iastore, 1) := by decide +kernel
theorem dX8_meets_168 : decode cX8_meets 168 = .ok (.aload_n 0, 1) := by decide +kernel
theorem dX8_meets_169 : decode cX8_meets 169 = .ok (.getfield 47, 3) := by decide +kernel
theorem dX8_meets_172 : decode cX8_meets 172 = .ok (.iload 6, 2) := by decide +kernel
theorem dX8_meets_174 : decode cX8_meets 174 = .ok (.baload, 1) := by decide +kernel
theorem dX8_meets_175 : decode cX8_meets 175 = .ok (.ifCond .eq 6, 3) := by decide +kernel
theorem dX8_meets_178 : decode cX8_meets 178 = .ok (.goto 22, 3) := by decide +kernel
theorem dX8_meets_181 : decode cX8_meets 181 = .ok (.aload_n 0, 1) := by decide +kernel
theorem dX8_meets_182 : decode cX8_meets 182 = .ok (.getfield 47, 3) := by decide +kernel
theorem dX8_meets_185 : decode cX8_meets 185 = .ok (.iload 6, 2) := by decide +kernel
theorem dX8_meets_187 : decode cX8_meets 187 = .ok (.iconst 1, 1) := by decide +kernel
theorem dX8_meets_188 : decode cX8_meets 188 = .ok (.bastore, 1) := by decide +kernel
theorem dX8_meets_189 : decode cX8_meets 189 = .ok (.aload_n 0, 1) := by decide +kernel
theorem dX8_meets_190 : decode cX8_meets 190 = .ok (.getfield 59, 3) := by decide +kernel
theorem dX8_meets_193 : decode cX8_meets 193 = .ok (.iload_n 2, 1) := by decide +kernel
theorem dX8_meets_194 : decode cX8_meets 194 = .ok (.iload 6, 2) := by decide +kernel
theorem dX8_meets_196 : decode cX8_meets 196 = .ok (.iastore, 1) := by decide +kernel
theorem dX8_meets_197 : decode cX8_meets 197 = .ok (.iinc 2 1, 3) := by decide +kernel
theorem dX8_meets_200 : decode cX8_meets 200 = .ok (.iinc 5 1, 3) := by decide +kernel
theorem dX8_meets_203 : decode cX8_meets 203 = .ok (.goto (-75), 3) := by decide +kernel
theorem dX8_meets_206 : decode cX8_meets 206 = .ok (.iinc 3 1, 3) := by decide +kernel
theorem dX8_meets_209 : decode cX8_meets 209 = .ok (.goto (-148), 3) := by decide +kernel
theorem dX8_meets_212 : decode cX8_meets 212 = .ok (.iconst 1, 1) := by decide +kernel
theorem dX8_meets_213 : decode cX8_meets 213 = .ok (.ireturn, 1) := by decide +kernel
theorem dX8_walks_0 : decode cX8_walks 0 = .ok (.aload_n 0, 1) := by decide +kernel
theorem dX8_walks_1 : decode cX8_walks 1 = .ok (.iconst 0, 1) := by decide +kernel
theorem dX8_walks_2 : decode cX8_walks 2 = .ok (.putfield 281, 3) := by decide +kernel
theorem dX8_walks_5 : decode cX8_walks 5 = .ok (.aload_n 0, 1) := by decide +kernel
theorem dX8_walks_6 : decode cX8_walks 6 = .ok (.iconst 0, 1) := by decide +kernel
theorem dX8_walks_7 : decode cX8_walks 7 = .ok (.putfield 284, 3) := by decide +kernel
theorem dX8_walks_10 : decode cX8_walks 10 = .ok (.aload_n 0, 1) := by decide +kernel
theorem dX8_walks_11 : decode cX8_walks 11 = .ok (.iload_n 1, 1) := by decide +kernel
theorem dX8_walks_12 : decode cX8_walks 12 = .ok (.invokevirtual 287, 3) := by decide +kernel
theorem dX8_walks_15 : decode cX8_walks 15 = .ok (.ifCond .eq 12, 3) := by decide +kernel
theorem dX8_walks_18 : decode cX8_walks 18 = .ok (.aload_n 0, 1) := by decide +kernel
theorem dX8_walks_19 : decode cX8_walks 19 = .ok (.getfield 50, 3) := by decide +kernel
theorem dX8_walks_22 : decode cX8_walks 22 = .ok (.iload_n 1, 1) := by decide +kernel
theorem dX8_walks_23 : decode cX8_walks 23 = .ok (.iaload, 1) := by decide +kernel
theorem dX8_walks_24 : decode cX8_walks 24 = .ok (.ifCond .le 5, 3) := by decide +kernel
theorem dX8_walks_27 : decode cX8_walks 27 = .ok (.iconst 0, 1) := by decide +kernel
theorem dX8_walks_28 : decode cX8_walks 28 = .ok (.ireturn, 1) := by decide +kernel
theorem dX8_walks_29 : decode cX8_walks 29 = .ok (.iconst 0, 1) := by decide +kernel
theorem dX8_walks_30 : decode cX8_walks 30 = .ok (.istore_n 2, 1) := by decide +kernel
theorem dX8_walks_31 : decode cX8_walks 31 = .ok (.iconst 0, 1) := by decide +kernel
theorem dX8_walks_32 : decode cX8_walks 32 = .ok (.istore_n 3, 1) := by decide +kernel
theorem dX8_walks_33 : decode cX8_walks 33 = .ok (.iload_n 3, 1) := by decide +kernel
theorem dX8_walks_34 : decode cX8_walks 34 = .ok (.sipush 512, 3) := by decide +kernel
theorem dX8_walks_37 : decode cX8_walks 37 = .ok (.if_icmp .ge 21, 3) := by decide +kernel
theorem dX8_walks_40 : decode cX8_walks 40 = .ok (.aload_n 0, 1) := by decide +kernel
theorem dX8_walks_41 : decode cX8_walks 41 = .ok (.getfield 47, 3) := by decide +kernel
theorem dX8_walks_44 : decode cX8_walks 44 = .ok (.iload_n 3, 1) := by decide +kernel
theorem dX8_walks_45 : decode cX8_walks 45 = .ok (.baload, 1) := by decide +kernel
theorem dX8_walks_46 : decode cX8_walks 46 = .ok (.ifCond .eq 6, 3) := by decide +kernel
theorem dX8_walks_49 : decode cX8_walks 49 = .ok (.iinc 2 1, 3) := by decide +kernel
theorem dX8_walks_52 : decode cX8_walks 52 = .ok (.iinc 3 1, 3) := by decide +kernel
theorem dX8_walks_55 : decode cX8_walks 55 = .ok (.goto (-22), 3) := by decide +kernel
theorem dX8_walks_58 : decode cX8_walks 58 = .ok (.iconst 1, 1) := by decide +kernel
theorem dX8_walks_59 : decode cX8_walks 59 = .ok (.istore_n 3, 1) := by decide +kernel
theorem dX8_walks_60 : decode cX8_walks 60 = .ok (.aload_n 0, 1) := by decide +kernel
theorem dX8_walks_61 : decode cX8_walks 61 = .ok (.getfield 59, 3) := by decide +kernel
theorem dX8_walks_64 : decode cX8_walks 64 = .ok (.iconst 0, 1) := by decide +kernel
theorem dX8_walks_65 : decode cX8_walks 65 = .ok (.iload_n 1, 1) := by decide +kernel
theorem dX8_walks_66 : decode cX8_walks 66 = .ok (.iastore, 1) := by decide +kernel
theorem dX8_walks_67 : decode cX8_walks 67 = .ok (.iconst 0, 1) := by decide +kernel
theorem dX8_walks_68 : decode cX8_walks 68 = .ok (.istore 4, 2) := by decide +kernel
theorem dX8_walks_70 : decode cX8_walks 70 = .ok (.iload 4, 2) := by decide +kernel
theorem dX8_walks_72 : decode cX8_walks 72 = .ok (.iload_n 3, 1) := by decide +kernel
theorem dX8_walks_73 : decode cX8_walks 73 = .ok (.if_icmp .ge 255, 3) := by decide +kernel
theorem dX8_walks_76 : decode cX8_walks 76 = .ok (.aload_n 0, 1) := by decide +kernel
theorem dX8_walks_77 : decode cX8_walks 77 = .ok (.getfield 59, 3) := by decide +kernel
theorem dX8_walks_80 : decode cX8_walks 80 = .ok (.iload 4, 2) := by decide +kernel
theorem dX8_walks_82 : decode cX8_walks 82 = .ok (.iaload, 1) := by decide +kernel
theorem dX8_walks_83 : decode cX8_walks 83 = .ok (.istore 5, 2) := by decide +kernel
theorem dX8_walks_85 : decode cX8_walks 85 = .ok (.aload_n 0, 1) := by decide +kernel
theorem dX8_walks_86 : decode cX8_walks 86 = .ok (.getfield 53, 3) := by decide +kernel
theorem dX8_walks_89 : decode cX8_walks 89 = .ok (.iload 5, 2) := by decide +kernel
theorem dX8_walks_91 : decode cX8_walks 91 = .ok (.iaload, 1) := by decide +kernel
theorem dX8_walks_92 : decode cX8_walks 92 = .ok (.getstatic 220, 3) := by decide +kernel
theorem dX8_walks_95 : decode cX8_walks 95 = .ok (.aload_n 0, 1) := by decide +kernel
theorem dX8_walks_96 : decode cX8_walks 96 = .ok (.getfield 7, 3) := by decide +kernel
theorem dX8_walks_99 : decode cX8_walks 99 = .ok (.iload 5, 2) := by decide +kernel
theorem dX8_walks_101 : decode cX8_walks 101 = .ok (.iaload, 1) := by decide +kernel
theorem dX8_walks_102 : decode cX8_walks 102 = .ok (.iaload, 1) := by decide +kernel
theorem dX8_walks_103 : decode cX8_walks 103 = .ok (.iadd, 1) := by decide +kernel
theorem dX8_walks_104 : decode cX8_walks 104 = .ok (.istore 6, 2) := by decide +kernel
theorem dX8_walks_106 : decode cX8_walks 106 = .ok (.aload_n 0, 1) := by decide +kernel
theorem dX8_walks_107 : decode cX8_walks 107 = .ok (.getfield 56, 3) := by decide +kernel
theorem dX8_walks_110 : decode cX8_walks 110 = .ok (.iload 5, 2) := by decide +kernel
theorem dX8_walks_112 : decode cX8_walks 112 = .ok (.iaload, 1) := by decide +kernel
theorem dX8_walks_113 : decode cX8_walks 113 = .ok (.aload_n 0, 1) := by decide +kernel
theorem dX8_walks_114 : decode cX8_walks 114 = .ok (.getfield 7, 3) := by decide +kernel
theorem dX8_walks_117 : decode cX8_walks 117 = .ok (.iload 5, 2) := by decide +kernel
theorem dX8_walks_119 : decode cX8_walks 119 = .ok (.iaload, 1) := by decide +kernel
theorem dX8_walks_120 : decode cX8_walks 120 = .ok (.bipush 9, 2) := by decide +kernel
theorem dX8_walks_122 : decode cX8_walks 122 = .ok (.if_icmp .ne 7, 3) := by decide +kernel
theorem dX8_walks_125 : decode cX8_walks 125 = .ok (.iconst 1, 1) := by decide +kernel
theorem dX8_walks_126 : decode cX8_walks 126 = .ok (.goto 20, 3) := by decide +kernel
theorem dX8_walks_129 : decode cX8_walks 129 = .ok (.aload_n 0, 1) := by decide +kernel
theorem dX8_walks_130 : decode cX8_walks 130 = .ok (.getfield 7, 3) := by decide +kernel
theorem dX8_walks_133 : decode cX8_walks 133 = .ok (.iload 5, 2) := by decide +kernel
theorem dX8_walks_135 : decode cX8_walks 135 = .ok (.iaload, 1) := by decide +kernel
theorem dX8_walks_136 : decode cX8_walks 136 = .ok (.bipush 10, 2) := by decide +kernel
theorem dX8_walks_138 : decode cX8_walks 138 = .ok (.if_icmp .ne 7, 3) := by decide +kernel
theorem dX8_walks_141 : decode cX8_walks 141 = .ok (.iconst (-1), 1) := by decide +kernel
theorem dX8_walks_142 : decode cX8_walks 142 = .ok (.goto 4, 3) := by decide +kernel
theorem dX8_walks_145 : decode cX8_walks 145 = .ok (.iconst 0, 1) := by decide +kernel
theorem dX8_walks_146 : decode cX8_walks 146 = .ok (.iadd, 1) := by decide +kernel
theorem dX8_walks_147 : decode cX8_walks 147 = .ok (.istore 7, 2) := by decide +kernel
theorem dX8_walks_149 : decode cX8_walks 149 = .ok (.iload 6, 2) := by decide +kernel
theorem dX8_walks_151 : decode cX8_walks 151 = .ok (.aload_n 0, 1) := by decide +kernel
theorem dX8_walks_152 : decode cX8_walks 152 = .ok (.getfield 281, 3) := by decide +kernel
theorem dX8_walks_155 : decode cX8_walks 155 = .ok (.if_icmp .le 9, 3) := by decide +kernel
theorem dX8_walks_158 : decode cX8_walks 158 = .ok (.aload_n 0, 1) := by decide +kernel
theorem dX8_walks_159 : decode cX8_walks 159 = .ok (.iload 6, 2) := by decide +kernel
theorem dX8_walks_161 : decode cX8_walks 161 = .ok (.putfield 281, 3) := by decide +kernel
theorem dX8_walks_164 : decode cX8_walks 164 = .ok (.iload 7, 2) := by decide +kernel
theorem dX8_walks_166 : decode cX8_walks 166 = .ok (.aload_n 0, 1) := by decide +kernel
theorem dX8_walks_167 : decode cX8_walks 167 = .ok (.getfield 284, 3) := by decide +kernel
theorem dX8_walks_170 : decode cX8_walks 170 = .ok (.if_icmp .le 9, 3) := by decide +kernel
theorem dX8_walks_173 : decode cX8_walks 173 = .ok (.aload_n 0, 1) := by decide +kernel
theorem dX8_walks_174 : decode cX8_walks 174 = .ok (.iload 7, 2) := by decide +kernel
theorem dX8_walks_176 : decode cX8_walks 176 = .ok (.putfield 284, 3) := by decide +kernel
theorem dX8_walks_179 : decode cX8_walks 179 = .ok (.iinc 2 (-1), 3) := by decide +kernel
theorem dX8_walks_182 : decode cX8_walks 182 = .ok (.aload_n 0, 1) := by decide +kernel
theorem dX8_walks_183 : decode cX8_walks 183 = .ok (.getfield 7, 3) := by decide +kernel
theorem dX8_walks_186 : decode cX8_walks 186 = .ok (.iload 5, 2) := by decide +kernel
theorem dX8_walks_188 : decode cX8_walks 188 = .ok (.iaload, 1) := by decide +kernel
theorem dX8_walks_189 : decode cX8_walks 189 = .ok (.bipush 18, 2) := by decide +kernel
theorem dX8_walks_191 : decode cX8_walks 191 = .ok (.if_icmp .ne 6, 3) := by decide +kernel
theorem dX8_walks_194 : decode cX8_walks 194 = .ok (.goto 128, 3) := by decide +kernel
theorem dX8_walks_197 : decode cX8_walks 197 = .ok (.iconst 0, 1) := by decide +kernel
theorem dX8_walks_198 : decode cX8_walks 198 = .ok (.istore 8, 2) := by decide +kernel
theorem dX8_walks_200 : decode cX8_walks 200 = .ok (.iload 8, 2) := by decide +kernel
theorem dX8_walks_202 : decode cX8_walks 202 = .ok (.aload_n 0, 1) := by decide +kernel
theorem dX8_walks_203 : decode cX8_walks 203 = .ok (.iload 5, 2) := by decide +kernel
theorem dX8_walks_205 : decode cX8_walks 205 = .ok (.invokevirtual 275, 3) := by decide +kernel
theorem dX8_walks_208 : decode cX8_walks 208 = .ok (.ifCond .eq 7, 3) := by decide +kernel
theorem dX8_walks_211 : decode cX8_walks 211 = .ok (.iconst 2, 1) := by decide +kernel
theorem dX8_walks_212 : decode cX8_walks 212 = .ok (.goto 4, 3) := by decide +kernel
theorem dX8_walks_215 : decode cX8_walks 215 = .ok (.iconst 1, 1) := by decide +kernel
theorem dX8_walks_216 : decode cX8_walks 216 = .ok (.if_icmp .ge 106, 3) := by decide +kernel
theorem dX8_walks_219 : decode cX8_walks 219 = .ok (.aload_n 0, 1) := by decide +kernel
theorem dX8_walks_220 : decode cX8_walks 220 = .ok (.iload 5, 2) := by decide +kernel
theorem dX8_walks_222 : decode cX8_walks 222 = .ok (.iload 8, 2) := by decide +kernel
theorem dX8_walks_224 : decode cX8_walks 224 = .ok (.invokevirtual 278, 3) := by decide +kernel
theorem dX8_walks_227 : decode cX8_walks 227 = .ok (.istore 9, 2) := by decide +kernel
theorem dX8_walks_229 : decode cX8_walks 229 = .ok (.aload_n 0, 1) := by decide +kernel
theorem dX8_walks_230 : decode cX8_walks 230 = .ok (.getfield 53, 3) := by decide +kernel
theorem dX8_walks_233 : decode cX8_walks 233 = .ok (.iload 9, 2) := by decide +kernel
theorem dX8_walks_235 : decode cX8_walks 235 = .ok (.iaload, 1) := by decide +kernel
theorem dX8_walks_236 : decode cX8_walks 236 = .ok (.ifCond .eq 15, 3) := by decide +kernel
theorem dX8_walks_239 : decode cX8_walks 239 = .ok (.iload 7, 2) := by decide +kernel
theorem dX8_walks_241 : decode cX8_walks 241 = .ok (.aload_n 0, 1) := by decide +kernel
theorem dX8_walks_242 : decode cX8_walks 242 = .ok (.getfield 56, 3) := by decide +kernel
theorem dX8_walks_245 : decode cX8_walks 245 = .ok (.iload 9, 2) := by decide +kernel
theorem dX8_walks_247 : decode cX8_walks 247 = .ok (.iaload, 1) := by decide +kernel
theorem dX8_walks_248 : decode cX8_walks 248 = .ok (.if_icmp .le 12, 3) := by decide +kernel
theorem dX8_walks_251 : decode cX8_walks 251 = .ok (.aload_n 0, 1) := by decide +kernel
theorem dX8_walks_252 : decode cX8_walks 252 = .ok (.getfield 56, 3) := by decide +kernel
theorem dX8_walks_255 : decode cX8_walks 255 = .ok (.iload 9, 2) := by decide +kernel
theorem dX8_walks_257 : decode cX8_walks 257 = .ok (.iload 7, 2) := by decide +kernel
theorem dX8_walks_259 : decode cX8_walks 259 = .ok (.iastore, 1) := by decide +kernel
theorem dX8_walks_260 : decode cX8_walks 260 = .ok (.iload 6, 2) := by decide +kernel
theorem dX8_walks_262 : decode cX8_walks 262 = .ok (.aload_n 0, 1) := by decide +kernel
theorem dX8_walks_263 : decode cX8_walks 263 = .ok (.getfield 53, 3) := by decide +kernel
theorem dX8_walks_266 : decode cX8_walks 266 = .ok (.iload 9, 2) := by decide +kernel
theorem dX8_walks_268 : decode cX8_walks 268 = .ok (.iaload, 1) := by decide +kernel
theorem dX8_walks_269 : decode cX8_walks 269 = .ok (.if_icmp .le 12, 3) := by decide +kernel
theorem dX8_walks_272 : decode cX8_walks 272 = .ok (.aload_n 0, 1) := by decide +kernel
theorem dX8_walks_273 : decode cX8_walks 273 = .ok (.getfield 53, 3) := by decide +kernel
theorem dX8_walks_276 : decode cX8_walks 276 = .ok (.iload 9, 2) := by decide +kernel
theorem dX8_walks_278 : decode cX8_walks 278 = .ok (.iload 6, 2) := by decide +kernel
theorem dX8_walks_280 : decode cX8_walks 280 = .ok (.iastore, 1) := by decide +kernel
theorem dX8_walks_281 : decode cX8_walks 281 = .ok (.aload_n 0, 1) := by decide +kernel
theorem dX8_walks_282 : decode cX8_walks 282 = .ok (.getfield 50, 3) := by decide +kernel
theorem dX8_walks_285 : decode cX8_walks 285 = .ok (.iload 9, 2) := by decide +kernel
theorem dX8_walks_287 : decode cX8_walks 287 = .ok (.dup2, 1) := by decide +kernel
theorem dX8_walks_288 : decode cX8_walks 288 = .ok (.iaload, 1) := by decide +kernel
theorem dX8_walks_289 : decode cX8_walks 289 = .ok (.iconst 1, 1) := by decide +kernel
theorem dX8_walks_290 : decode cX8_walks 290 = .ok (.isub, 1) := by decide +kernel
theorem dX8_walks_291 : decode cX8_walks 291 = .ok (.iastore, 1) := by decide +kernel
theorem dX8_walks_292 : decode cX8_walks 292 = .ok (.aload_n 0, 1) := by decide +kernel
theorem dX8_walks_293 : decode cX8_walks 293 = .ok (.getfield 50, 3) := by decide +kernel
theorem dX8_walks_296 : decode cX8_walks 296 = .ok (.iload 9, 2) := by decide +kernel
theorem dX8_walks_298 : decode cX8_walks 298 = .ok (.iaload, 1) := by decide +kernel
theorem dX8_walks_299 : decode cX8_walks 299 = .ok (.ifCond .le 6, 3) := by decide +kernel
theorem dX8_walks_302 : decode cX8_walks 302 = .ok (.goto 14, 3) := by decide +kernel
theorem dX8_walks_305 : decode cX8_walks 305 = .ok (.aload_n 0, 1) := by decide +kernel
theorem dX8_walks_306 : decode cX8_walks 306 = .ok (.getfield 59, 3) := by decide +kernel
theorem dX8_walks_309 : decode cX8_walks 309 = .ok (.iload_n 3, 1) := by decide +kernel
theorem dX8_walks_310 : decode cX8_walks 310 = .ok (.iload 9, 2) := by decide +kernel
theorem dX8_walks_312 : decode cX8_walks 312 = .ok (.iastore, 1) := by decide +kernel
theorem dX8_walks_313 : decode cX8_walks 313 = .ok (.iinc 3 1, 3) := by decide +kernel
theorem dX8_walks_316 : decode cX8_walks 316 = .ok (.iinc 8 1, 3) := by decide +kernel
theorem dX8_walks_319 : decode cX8_walks 319 = .ok (.goto (-119), 3) := by decide +kernel
theorem dX8_walks_322 : decode cX8_walks 322 = .ok (.iinc 4 1, 3) := by decide +kernel
theorem dX8_walks_325 : decode cX8_walks 325 = .ok (.goto (-255), 3) := by decide +kernel
theorem dX8_walks_328 : decode cX8_walks 328 = .ok (.iload_n 2, 1) := by decide +kernel
theorem dX8_walks_329 : decode cX8_walks 329 = .ok (.ifCond .ne 7, 3) := by decide +kernel
theorem dX8_walks_332 : decode cX8_walks 332 = .ok (.iconst 1, 1) := by decide +kernel
theorem dX8_walks_333 : decode cX8_walks 333 = .ok (.goto 4, 3) := by decide +kernel
theorem dX8_walks_336 : decode cX8_walks 336 = .ok (.iconst 0, 1) := by decide +kernel
theorem dX8_walks_337 : decode cX8_walks 337 = .ok (.ireturn, 1) := by decide +kernel
theorem dX8_cost_0 : decode cX8_cost 0 = .ok (.aload_n 0, 1) := by decide +kernel
theorem dX8_cost_1 : decode cX8_cost 1 = .ok (.iconst 0, 1) := by decide +kernel
theorem dX8_cost_2 : decode cX8_cost 2 = .ok (.putfield 65, 3) := by decide +kernel
theorem dX8_cost_5 : decode cX8_cost 5 = .ok (.iload_n 1, 1) := by decide +kernel
theorem dX8_cost_6 : decode cX8_cost 6 = .ok (.iconst 0, 1) := by decide +kernel
theorem dX8_cost_7 : decode cX8_cost 7 = .ok (.bipush 20, 2) := by decide +kernel
theorem dX8_cost_9 : decode cX8_cost 9 = .ok (.invokestatic 195, 3) := by decide +kernel
theorem dX8_cost_12 : decode cX8_cost 12 = .ok (.ifCond .eq 23, 3) := by decide +kernel
theorem dX8_cost_15 : decode cX8_cost 15 = .ok (.aload_n 0, 1) := by decide +kernel
theorem dX8_cost_16 : decode cX8_cost 16 = .ok (.aload_n 0, 1) := by decide +kernel
theorem dX8_cost_17 : decode cX8_cost 17 = .ok (.getfield 13, 3) := by decide +kernel
theorem dX8_cost_20 : decode cX8_cost 20 = .ok (.iload_n 1, 1) := by decide +kernel
theorem dX8_cost_21 : decode cX8_cost 21 = .ok (.iaload, 1) := by decide +kernel
theorem dX8_cost_22 : decode cX8_cost 22 = .ok (.invokevirtual 290, 3) := by decide +kernel
theorem dX8_cost_25 : decode cX8_cost 25 = .ok (.ifCond .eq 10, 3) := by decide +kernel
theorem dX8_cost_28 : decode cX8_cost 28 = .ok (.aload_n 0, 1) := by decide +kernel
theorem dX8_cost_29 : decode cX8_cost 29 = .ok (.getfield 281, 3) := by decide +kernel
theorem dX8_cost_32 : decode cX8_cost 32 = .ok (.goto 4, 3) := by decide +kernel
theorem dX8_cost_35 : decode cX8_cost 35 = .ok (.iconst (-1), 1) := by decide +kernel
theorem dX8_cost_36 : decode cX8_cost 36 = .ok (.ireturn, 1) := by decide +kernel
theorem dX8_pushes_0 : decode cX8_pushes 0 = .ok (.aload_n 0, 1) := by decide +kernel
theorem dX8_pushes_1 : decode cX8_pushes 1 = .ok (.iconst 0, 1) := by decide +kernel
theorem dX8_pushes_2 : decode cX8_pushes 2 = .ok (.putfield 65, 3) := by decide +kernel
theorem dX8_pushes_5 : decode cX8_pushes 5 = .ok (.iload_n 1, 1) := by decide +kernel
theorem dX8_pushes_6 : decode cX8_pushes 6 = .ok (.iconst 0, 1) := by decide +kernel
theorem dX8_pushes_7 : decode cX8_pushes 7 = .ok (.bipush 20, 2) := by decide +kernel
theorem dX8_pushes_9 : decode cX8_pushes 9 = .ok (.invokestatic 195, 3) := by decide +kernel
theorem dX8_pushes_12 : decode cX8_pushes 12 = .ok (.ifCond .eq 23, 3) := by decide +kernel
theorem dX8_pushes_15 : decode cX8_pushes 15 = .ok (.aload_n 0, 1) := by decide +kernel
theorem dX8_pushes_16 : decode cX8_pushes 16 = .ok (.aload_n 0, 1) := by decide +kernel
theorem dX8_pushes_17 : decode cX8_pushes 17 = .ok (.getfield 13, 3) := by decide +kernel
theorem dX8_pushes_20 : decode cX8_pushes 20 = .ok (.iload_n 1, 1) := by decide +kernel
theorem dX8_pushes_21 : decode cX8_pushes 21 = .ok (.iaload, 1) := by decide +kernel
theorem dX8_pushes_22 : decode cX8_pushes 22 = .ok (.invokevirtual 290, 3) := by decide +kernel
theorem dX8_pushes_25 : decode cX8_pushes 25 = .ok (.ifCond .eq 10, 3) := by decide +kernel
theorem dX8_pushes_28 : decode cX8_pushes 28 = .ok (.aload_n 0, 1) := by decide +kernel
theorem dX8_pushes_29 : decode cX8_pushes 29 = .ok (.getfield 284, 3) := by decide +kernel
theorem dX8_pushes_32 : decode cX8_pushes 32 = .ok (.goto 4, 3) := by decide +kernel
theorem dX8_pushes_35 : decode cX8_pushes 35 = .ok (.iconst (-1), 1) := by decide +kernel
theorem dX8_pushes_36 : decode cX8_pushes 36 = .ok (.ireturn, 1) := by decide +kernel
theorem dX8_room_0 : decode cX8_room 0 = .ok (.aload_n 0, 1) := by decide +kernel
theorem dX8_room_1 : decode cX8_room 1 = .ok (.iconst 0, 1) := by decide +kernel
theorem dX8_room_2 : decode cX8_room 2 = .ok (.putfield 65, 3) := by decide +kernel
theorem dX8_room_5 : decode cX8_room 5 = .ok (.iconst 0, 1) := by decide +kernel
theorem dX8_room_6 : decode cX8_room 6 = .ok (.istore_n 2, 1) := by decide +kernel
theorem dX8_room_7 : decode cX8_room 7 = .ok (.iconst 0, 1) := by decide +kernel
theorem dX8_room_8 : decode cX8_room 8 = .ok (.istore_n 3, 1) := by decide +kernel
theorem dX8_room_9 : decode cX8_room 9 = .ok (.iload_n 3, 1) := by decide +kernel
theorem dX8_room_10 : decode cX8_room 10 = .ok (.bipush 21, 2) := by decide +kernel
theorem dX8_room_12 : decode cX8_room 12 = .ok (.if_icmp .ge 146, 3) := by decide +kernel
theorem dX8_room_15 : decode cX8_room 15 = .ok (.aload_n 0, 1) := by decide +kernel
theorem dX8_room_16 : decode cX8_room 16 = .ok (.getfield 16, 3) := by decide +kernel
theorem dX8_room_19 : decode cX8_room 19 = .ok (.iload_n 3, 1) := by decide +kernel
theorem dX8_room_20 : decode cX8_room 20 = .ok (.baload, 1) := by decide +kernel
theorem dX8_room_21 : decode cX8_room 21 = .ok (.ifCond .ne 6, 3) := by decide +kernel
theorem dX8_room_24 : decode cX8_room 24 = .ok (.goto 128, 3) := by decide +kernel
theorem dX8_room_27 : decode cX8_room 27 = .ok (.iconst 1, 1) := by decide +kernel
theorem dX8_room_28 : decode cX8_room 28 = .ok (.istore 4, 2) := by decide +kernel
theorem dX8_room_30 : decode cX8_room 30 = .ok (.iconst 0, 1) := by decide +kernel
theorem dX8_room_31 : decode cX8_room 31 = .ok (.istore 5, 2) := by decide +kernel
theorem dX8_room_33 : decode cX8_room 33 = .ok (.iconst 0, 1) := by decide +kernel
theorem dX8_room_34 : decode cX8_room 34 = .ok (.istore 6, 2) := by decide +kernel
theorem dX8_room_36 : decode cX8_room 36 = .ok (.iload 6, 2) := by decide +kernel
theorem dX8_room_38 : decode cX8_room 38 = .ok (.bipush 21, 2) := by decide +kernel
theorem dX8_room_40 : decode cX8_room 40 = .ok (.if_icmp .ge 90, 3) := by decide +kernel
theorem dX8_room_43 : decode cX8_room 43 = .ok (.aload_n 0, 1) := by decide +kernel
theorem dX8_room_44 : decode cX8_room 44 = .ok (.getfield 16, 3) := by decide +kernel
theorem dX8_room_47 : decode cX8_room 47 = .ok (.iload 6, 2) := by decide +kernel
theorem dX8_room_49 : decode cX8_room 49 = .ok (.baload, 1) := by decide +kernel
theorem dX8_room_50 : decode cX8_room 50 = .ok (.ifCond .eq 74, 3) := by decide +kernel
theorem dX8_room_53 : decode cX8_room 53 = .ok (.aload_n 0, 1) := by decide +kernel
theorem dX8_room_54 : decode cX8_room 54 = .ok (.getfield 20, 3) := by decide +kernel
theorem dX8_room_57 : decode cX8_room 57 = .ok (.iload 6, 2) := by decide +kernel
theorem dX8_room_59 : decode cX8_room 59 = .ok (.aload_n 0, 1) := by decide +kernel
theorem dX8_room_60 : decode cX8_room 60 = .ok (.getfield 113, 3) := by decide +kernel
theorem dX8_room_63 : decode cX8_room 63 = .ok (.invokestatic 109, 3) := by decide +kernel
theorem dX8_room_66 : decode cX8_room 66 = .ok (.aload_n 0, 1) := by decide +kernel
theorem dX8_room_67 : decode cX8_room 67 = .ok (.getfield 20, 3) := by decide +kernel
theorem dX8_room_70 : decode cX8_room 70 = .ok (.iload_n 3, 1) := by decide +kernel
theorem dX8_room_71 : decode cX8_room 71 = .ok (.aload_n 0, 1) := by decide +kernel
theorem dX8_room_72 : decode cX8_room 72 = .ok (.getfield 113, 3) := by decide +kernel
theorem dX8_room_75 : decode cX8_room 75 = .ok (.invokestatic 109, 3) := by decide +kernel
theorem dX8_room_78 : decode cX8_room 78 = .ok (.if_icmp .eq 6, 3) := by decide +kernel
theorem dX8_room_81 : decode cX8_room 81 = .ok (.goto 43, 3) := by decide +kernel
theorem dX8_room_84 : decode cX8_room 84 = .ok (.iload 6, 2) := by decide +kernel
theorem dX8_room_86 : decode cX8_room 86 = .ok (.iload_n 3, 1) := by decide +kernel
theorem dX8_room_87 : decode cX8_room 87 = .ok (.if_icmp .ge 6, 3) := by decide +kernel
theorem dX8_room_90 : decode cX8_room 90 = .ok (.iconst 0, 1) := by decide +kernel
theorem dX8_room_91 : decode cX8_room 91 = .ok (.istore 4, 2) := by decide +kernel
theorem dX8_room_93 : decode cX8_room 93 = .ok (.aload_n 0, 1) := by decide +kernel
theorem dX8_room_94 : decode cX8_room 94 = .ok (.aload_n 0, 1) := by decide +kernel
theorem dX8_room_95 : decode cX8_room 95 = .ok (.getfield 13, 3) := by decide +kernel
theorem dX8_room_98 : decode cX8_room 98 = .ok (.iload 6, 2) := by decide +kernel
theorem dX8_room_100 : decode cX8_room 100 = .ok (.iaload, 1) := by decide +kernel
theorem dX8_room_101 : decode cX8_room 101 = .ok (.invokevirtual 290, 3) := by decide +kernel
theorem dX8_room_104 : decode cX8_room 104 = .ok (.ifCond .ne 5, 3) := by decide +kernel
theorem dX8_room_107 : decode cX8_room 107 = .ok (.iconst (-1), 1) := by decide +kernel
theorem dX8_room_108 : decode cX8_room 108 = .ok (.ireturn, 1) := by decide +kernel
theorem dX8_room_109 : decode cX8_room 109 = .ok (.aload_n 0, 1) := by decide +kernel
theorem dX8_room_110 : decode cX8_room 110 = .ok (.getfield 284, 3) := by decide +kernel
theorem dX8_room_113 : decode cX8_room 113 = .ok (.iload 5, 2) := by decide +kernel
theorem dX8_room_115 : decode cX8_room 115 = .ok (.if_icmp .le 9, 3) := by decide +kernel
theorem dX8_room_118 : decode cX8_room 118 = .ok (.aload_n 0, 1) := by decide +kernel
theorem dX8_room_119 : decode cX8_room 119 = .ok (.getfield 284, 3) := by decide +kernel
theorem dX8_room_122 : decode cX8_room 122 = .ok (.istore 5, 2) := by decide +kernel
theorem dX8_room_124 : decode cX8_room 124 = .ok (.iinc 6 1, 3) := by decide +kernel
theorem dX8_room_127 : decode cX8_room 127 = .ok (.goto (-91), 3) := by decide +kernel
theorem dX8_room_130 : decode cX8_room 130 = .ok (.iload 4, 2) := by decide +kernel
theorem dX8_room_132 : decode cX8_room 132 = .ok (.ifCond .eq 20, 3) := by decide +kernel
theorem dX8_room_135 : decode cX8_room 135 = .ok (.iload_n 2, 1) := by decide +kernel
theorem dX8_room_136 : decode cX8_room 136 = .ok (.iload 5, 2) := by decide +kernel
theorem dX8_room_138 : decode cX8_room 138 = .ok (.iload_n 1, 1) := by decide +kernel
theorem dX8_room_139 : decode cX8_room 139 = .ok (.ifCond .eq 8, 3) := by decide +kernel
theorem dX8_room_142 : decode cX8_room 142 = .ok (.bipush 10, 2) := by decide +kernel
theorem dX8_room_144 : decode cX8_room 144 = .ok (.goto 5, 3) := by decide +kernel
theorem dX8_room_147 : decode cX8_room 147 = .ok (.bipush 6, 2) := by decide +kernel
theorem dX8_room_149 : decode cX8_room 149 = .ok (.iadd, 1) := by decide +kernel
theorem dX8_room_150 : decode cX8_room 150 = .ok (.iadd, 1) := by decide +kernel
theorem dX8_room_151 : decode cX8_room 151 = .ok (.istore_n 2, 1) := by decide +kernel
theorem dX8_room_152 : decode cX8_room 152 = .ok (.iinc 3 1, 3) := by decide +kernel
theorem dX8_room_155 : decode cX8_room 155 = .ok (.goto (-146), 3) := by decide +kernel
theorem dX8_room_158 : decode cX8_room 158 = .ok (.iload_n 2, 1) := by decide +kernel
theorem dX8_room_159 : decode cX8_room 159 = .ok (.ireturn, 1) := by decide +kernel
