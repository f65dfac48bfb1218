theorem dX9_init_0 : decode cX9_init 0 = .ok (.aload_n 0, 1) := by decide +kernel
theorem dX9_init_1 : decode cX9_init 1 = .ok (.invokespecial 1, 3) := by decide +kernel
theorem dX9_init_4 : decode cX9_init 4 = .ok (.aload_n 0, 1) := by decide +kernel
theorem dX9_init_5 : decode cX9_init 5 = .ok (.bipush 100, 2) := by decide +kernel
theorem dX9_init_7 : decode cX9_init 7 = .ok (.newarray .int, 2) := by decide +kernel
theorem dX9_init_9 : decode cX9_init 9 = .ok (.putfield 9, 3) := by decide +kernel
theorem dX9_init_12 : decode cX9_init 12 = .ok (.aload_n 0, 1) := by decide +kernel
theorem dX9_init_13 : decode cX9_init 13 = .ok (.sipush 300, 3) := by decide +kernel
theorem dX9_init_16 : decode cX9_init 16 = .ok (.newarray .int, 2) := by decide +kernel
theorem dX9_init_18 : decode cX9_init 18 = .ok (.putfield 13, 3) := by decide +kernel
theorem dX9_init_21 : decode cX9_init 21 = .ok (.aload_n 0, 1) := by decide +kernel
theorem dX9_init_22 : decode cX9_init 22 = .ok (.bipush 100, 2) := by decide +kernel
theorem dX9_init_24 : decode cX9_init 24 = .ok (.newarray .int, 2) := by decide +kernel
theorem dX9_init_26 : decode cX9_init 26 = .ok (.putfield 16, 3) := by decide +kernel
theorem dX9_init_29 : decode cX9_init 29 = .ok (.aload_n 0, 1) := by decide +kernel
theorem dX9_init_30 : decode cX9_init 30 = .ok (.bipush 100, 2) := by decide +kernel
theorem dX9_init_32 : decode cX9_init 32 = .ok (.newarray .int, 2) := by decide +kernel
theorem dX9_init_34 : decode cX9_init 34 = .ok (.putfield 19, 3) := by decide +kernel
theorem dX9_init_37 : decode cX9_init 37 = .ok (.aload_n 0, 1) := by decide +kernel
theorem dX9_init_38 : decode cX9_init 38 = .ok (.bipush 100, 2) := by decide +kernel
theorem dX9_init_40 : decode cX9_init 40 = .ok (.newarray .int, 2) := by decide +kernel
theorem dX9_init_42 : decode cX9_init 42 = .ok (.putfield 22, 3) := by decide +kernel
theorem dX9_init_45 : decode cX9_init 45 = .ok (.aload_n 0, 1) := by decide +kernel
theorem dX9_init_46 : decode cX9_init 46 = .ok (.bipush 100, 2) := by decide +kernel
theorem dX9_init_48 : decode cX9_init 48 = .ok (.newarray .boolean, 2) := by decide +kernel
theorem dX9_init_50 : decode cX9_init 50 = .ok (.putfield 25, 3) := by decide +kernel
theorem dX9_init_53 : decode cX9_init 53 = .ok (.aload_n 0, 1) := by decide +kernel
theorem dX9_init_54 : decode cX9_init 54 = .ok (.sipush 200, 3) := by decide +kernel
theorem dX9_init_57 : decode cX9_init 57 = .ok (.newarray .int, 2) := by decide +kernel
theorem dX9_init_59 : decode cX9_init 59 = .ok (.putfield 29, 3) := by decide +kernel
theorem dX9_init_62 : decode cX9_init 62 = .ok (.aload_n 0, 1) := by decide +kernel
theorem dX9_init_63 : decode cX9_init 63 = .ok (.ldc 32, 2) := by decide +kernel
theorem dX9_init_65 : decode cX9_init 65 = .ok (.newarray .int, 2) := by decide +kernel
theorem dX9_init_67 : decode cX9_init 67 = .ok (.putfield 33, 3) := by decide +kernel
theorem dX9_init_70 : decode cX9_init 70 = .ok (.aload_n 0, 1) := by decide +kernel
theorem dX9_init_71 : decode cX9_init 71 = .ok (.sipush 1400, 3) := by decide +kernel
theorem dX9_init_74 : decode cX9_init 74 = .ok (.newarray .int, 2) := by decide +kernel
theorem dX9_init_76 : decode cX9_init 76 = .ok (.putfield 36, 3) := by decide +kernel
theorem dX9_init_79 : decode cX9_init 79 = .ok (.aload_n 0, 1) := by decide +kernel
theorem dX9_init_80 : decode cX9_init 80 = .ok (.sipush 1400, 3) := by decide +kernel
theorem dX9_init_83 : decode cX9_init 83 = .ok (.newarray .int, 2) := by decide +kernel
theorem dX9_init_85 : decode cX9_init 85 = .ok (.putfield 39, 3) := by decide +kernel
theorem dX9_init_88 : decode cX9_init 88 = .ok (.aload_n 0, 1) := by decide +kernel
theorem dX9_init_89 : decode cX9_init 89 = .ok (.sipush 1400, 3) := by decide +kernel
theorem dX9_init_92 : decode cX9_init 92 = .ok (.newarray .int, 2) := by decide +kernel
theorem dX9_init_94 : decode cX9_init 94 = .ok (.putfield 42, 3) := by decide +kernel
theorem dX9_init_97 : decode cX9_init 97 = .ok (.aload_n 0, 1) := by decide +kernel
theorem dX9_init_98 : decode cX9_init 98 = .ok (.sipush 400, 3) := by decide +kernel
theorem dX9_init_101 : decode cX9_init 101 = .ok (.newarray .byte, 2) := by decide +kernel
theorem dX9_init_103 : decode cX9_init 103 = .ok (.putfield 45, 3) := by decide +kernel
theorem dX9_init_106 : decode cX9_init 106 = .ok (.aload_n 0, 1) := by decide +kernel
theorem dX9_init_107 : decode cX9_init 107 = .ok (.iconst (-1), 1) := by decide +kernel
theorem dX9_init_108 : decode cX9_init 108 = .ok (.putfield 49, 3) := by decide +kernel
theorem dX9_init_111 : decode cX9_init 111 = .ok (.aload_n 0, 1) := by decide +kernel
theorem dX9_init_112 : decode cX9_init 112 = .ok (.iconst 5, 1) := by decide +kernel
theorem dX9_init_113 : decode cX9_init 113 = .ok (.newarray .int, 2) := by decide +kernel
theorem dX9_init_115 : decode cX9_init 115 = .ok (.putfield 53, 3) := by decide +kernel
theorem dX9_init_118 : decode cX9_init 118 = .ok (.aload_n 0, 1) := by decide +kernel
theorem dX9_init_119 : decode cX9_init 119 = .ok (.sipush 9000, 3) := by decide +kernel
theorem dX9_init_122 : decode cX9_init 122 = .ok (.newarray .byte, 2) := by decide +kernel
theorem dX9_init_124 : decode cX9_init 124 = .ok (.putfield 56, 3) := by decide +kernel
theorem dX9_init_127 : decode cX9_init 127 = .ok (.return_, 1) := by decide +kernel
theorem dX9_thrown_0 : decode cX9_thrown 0 = .ok (.aload_n 0, 1) := by decide +kernel
theorem dX9_thrown_1 : decode cX9_thrown 1 = .ok (.getfield 59, 3) := by decide +kernel
theorem dX9_thrown_4 : decode cX9_thrown 4 = .ok (.ireturn, 1) := by decide +kernel
theorem dX9_throwsIf_0 : decode cX9_throwsIf 0 = .ok (.iload_n 1, 1) := by decide +kernel
theorem dX9_throwsIf_1 : decode cX9_throwsIf 1 = .ok (.ifCond .eq 8, 3) := by decide +kernel
theorem dX9_throwsIf_4 : decode cX9_throwsIf 4 = .ok (.aload_n 0, 1) := by decide +kernel
theorem dX9_throwsIf_5 : decode cX9_throwsIf 5 = .ok (.iload_n 2, 1) := by decide +kernel
theorem dX9_throwsIf_6 : decode cX9_throwsIf 6 = .ok (.putfield 59, 3) := by decide +kernel
theorem dX9_throwsIf_9 : decode cX9_throwsIf 9 = .ok (.iload_n 1, 1) := by decide +kernel
theorem dX9_throwsIf_10 : decode cX9_throwsIf 10 = .ok (.ireturn, 1) := by decide +kernel
theorem dX9_in_0 : decode cX9_in 0 = .ok (.iload_n 0, 1) := by decide +kernel
theorem dX9_in_1 : decode cX9_in 1 = .ok (.iload_n 1, 1) := by decide +kernel
theorem dX9_in_2 : decode cX9_in 2 = .ok (.if_icmp .lt 12, 3) := by decide +kernel
theorem dX9_in_5 : decode cX9_in 5 = .ok (.iload_n 0, 1) := by decide +kernel
theorem dX9_in_6 : decode cX9_in 6 = .ok (.iload_n 2, 1) := by decide +kernel
theorem dX9_in_7 : decode cX9_in 7 = .ok (.if_icmp .gt 7, 3) := by decide +kernel
theorem dX9_in_10 : decode cX9_in 10 = .ok (.iconst 1, 1) := by decide +kernel
theorem dX9_in_11 : decode cX9_in 11 = .ok (.goto 4, 3) := by decide +kernel
theorem dX9_in_14 : decode cX9_in 14 = .ok (.iconst 0, 1) := by decide +kernel
theorem dX9_in_15 : decode cX9_in 15 = .ok (.ireturn, 1) := by decide +kernel
theorem dX9_copies_0 : decode cX9_copies 0 = .ok (.aload_n 0, 1) := by decide +kernel
theorem dX9_copies_1 : decode cX9_copies 1 = .ok (.getfield 9, 3) := by decide +kernel
theorem dX9_copies_4 : decode cX9_copies 4 = .ok (.iload_n 2, 1) := by decide +kernel
theorem dX9_copies_5 : decode cX9_copies 5 = .ok (.aload_n 0, 1) := by decide +kernel
theorem dX9_copies_6 : decode cX9_copies 6 = .ok (.getfield 9, 3) := by decide +kernel
theorem dX9_copies_9 : decode cX9_copies 9 = .ok (.iload_n 1, 1) := by decide +kernel
theorem dX9_copies_10 : decode cX9_copies 10 = .ok (.iaload, 1) := by decide +kernel
theorem dX9_copies_11 : decode cX9_copies 11 = .ok (.iastore, 1) := by decide +kernel
theorem dX9_copies_12 : decode cX9_copies 12 = .ok (.iconst 0, 1) := by decide +kernel
theorem dX9_copies_13 : decode cX9_copies 13 = .ok (.istore_n 3, 1) := by decide +kernel
theorem dX9_copies_14 : decode cX9_copies 14 = .ok (.iload_n 3, 1) := by decide +kernel
theorem dX9_copies_15 : decode cX9_copies 15 = .ok (.iconst 3, 1) := by decide +kernel
theorem dX9_copies_16 : decode cX9_copies 16 = .ok (.if_icmp .ge 29, 3) := by decide +kernel
theorem dX9_copies_19 : decode cX9_copies 19 = .ok (.aload_n 0, 1) := by decide +kernel
theorem dX9_copies_20 : decode cX9_copies 20 = .ok (.getfield 13, 3) := by decide +kernel
theorem dX9_copies_23 : decode cX9_copies 23 = .ok (.iconst 3, 1) := by decide +kernel
theorem dX9_copies_24 : decode cX9_copies 24 = .ok (.iload_n 2, 1) := by decide +kernel
theorem dX9_copies_25 : decode cX9_copies 25 = .ok (.imul, 1) := by decide +kernel
theorem dX9_copies_26 : decode cX9_copies 26 = .ok (.iload_n 3, 1) := by decide +kernel
theorem dX9_copies_27 : decode cX9_copies 27 = .ok (.iadd, 1) := by decide +kernel
theorem dX9_copies_28 : decode cX9_copies 28 = .ok (.aload_n 0, 1) := by decide +kernel
theorem dX9_copies_29 : decode cX9_copies 29 = .ok (.getfield 13, 3) := by decide +kernel
theorem dX9_copies_32 : decode cX9_copies 32 = .ok (.iconst 3, 1) := by decide +kernel
theorem dX9_copies_33 : decode cX9_copies 33 = .ok (.iload_n 1, 1) := by decide +kernel
theorem dX9_copies_34 : decode cX9_copies 34 = .ok (.imul, 1) := by decide +kernel
theorem dX9_copies_35 : decode cX9_copies 35 = .ok (.iload_n 3, 1) := by decide +kernel
theorem dX9_copies_36 : decode cX9_copies 36 = .ok (.iadd, 1) := by decide +kernel
theorem dX9_copies_37 : decode cX9_copies 37 = .ok (.iaload, 1) := by decide +kernel
theorem dX9_copies_38 : decode cX9_copies 38 = .ok (.iastore, 1) := by decide +kernel
theorem dX9_copies_39 : decode cX9_copies 39 = .ok (.iinc 3 1, 3) := by decide +kernel
theorem dX9_copies_42 : decode cX9_copies 42 = .ok (.goto (-28), 3) := by decide +kernel
theorem dX9_copies_45 : decode cX9_copies 45 = .ok (.aload_n 0, 1) := by decide +kernel
theorem dX9_copies_46 : decode cX9_copies 46 = .ok (.getfield 16, 3) := by decide +kernel
theorem dX9_copies_49 : decode cX9_copies 49 = .ok (.iload_n 2, 1) := by decide +kernel
theorem dX9_copies_50 : decode cX9_copies 50 = .ok (.aload_n 0, 1) := by decide +kernel
theorem dX9_copies_51 : decode cX9_copies 51 = .ok (.getfield 16, 3) := by decide +kernel
theorem dX9_copies_54 : decode cX9_copies 54 = .ok (.iload_n 1, 1) := by decide +kernel
theorem dX9_copies_55 : decode cX9_copies 55 = .ok (.iaload, 1) := by decide +kernel
theorem dX9_copies_56 : decode cX9_copies 56 = .ok (.iastore, 1) := by decide +kernel
theorem dX9_copies_57 : decode cX9_copies 57 = .ok (.aload_n 0, 1) := by decide +kernel
theorem dX9_copies_58 : decode cX9_copies 58 = .ok (.getfield 19, 3) := by decide +kernel
theorem dX9_copies_61 : decode cX9_copies 61 = .ok (.iload_n 2, 1) := by decide +kernel
theorem dX9_copies_62 : decode cX9_copies 62 = .ok (.aload_n 0, 1) := by decide +kernel
theorem dX9_copies_63 : decode cX9_copies 63 = .ok (.getfield 19, 3) := by decide +kernel
theorem dX9_copies_66 : decode cX9_copies 66 = .ok (.iload_n 1, 1) := by decide +kernel
theorem dX9_copies_67 : decode cX9_copies 67 = .ok (.iaload, 1) := by decide +kernel
theorem dX9_copies_68 : decode cX9_copies 68 = .ok (.iastore, 1) := by decide +kernel
theorem dX9_copies_69 : decode cX9_copies 69 = .ok (.aload_n 0, 1) := by decide +kernel
theorem dX9_copies_70 : decode cX9_copies 70 = .ok (.getfield 22, 3) := by decide +kernel
theorem dX9_copies_73 : decode cX9_copies 73 = .ok (.iload_n 2, 1) := by decide +kernel
theorem dX9_copies_74 : decode cX9_copies 74 = .ok (.aload_n 0, 1) := by decide +kernel
theorem dX9_copies_75 : decode cX9_copies 75 = .ok (.getfield 22, 3) := by decide +kernel
theorem dX9_copies_78 : decode cX9_copies 78 = .ok (.iload_n 1, 1) := by decide +kernel
theorem dX9_copies_79 : decode cX9_copies 79 = .ok (.iaload, 1) := by decide +kernel
theorem dX9_copies_80 : decode cX9_copies 80 = .ok (.iastore, 1) := by decide +kernel
theorem dX9_copies_81 : decode cX9_copies 81 = .ok (.aload_n 0, 1) := by decide +kernel
theorem dX9_copies_82 : decode cX9_copies 82 = .ok (.getfield 25, 3) := by decide +kernel
theorem dX9_copies_85 : decode cX9_copies 85 = .ok (.iload_n 2, 1) := by decide +kernel
theorem dX9_copies_86 : decode cX9_copies 86 = .ok (.aload_n 0, 1) := by decide +kernel
theorem dX9_copies_87 : decode cX9_copies 87 = .ok (.getfield 25, 3) := by decide +kernel
theorem dX9_copies_90 : decode cX9_copies 90 = .ok (.iload_n 1, 1) := by decide +kernel
theorem dX9_copies_91 : decode cX9_copies 91 = .ok (.baload, 1) := by decide +kernel
theorem dX9_copies_92 : decode cX9_copies 92 = .ok (.bastore, 1) := by decide +kernel
theorem dX9_copies_93 : decode cX9_copies 93 = .ok (.iconst 0, 1) := by decide +kernel
theorem dX9_copies_94 : decode cX9_copies 94 = .ok (.istore_n 3, 1) := by decide +kernel
theorem dX9_copies_95 : decode cX9_copies 95 = .ok (.iload_n 3, 1) := by decide +kernel
theorem dX9_copies_96 : decode cX9_copies 96 = .ok (.iconst 2, 1) := by decide +kernel
theorem dX9_copies_97 : decode cX9_copies 97 = .ok (.if_icmp .ge 87, 3) := by decide +kernel
theorem dX9_copies_100 : decode cX9_copies 100 = .ok (.aload_n 0, 1) := by decide +kernel
theorem dX9_copies_101 : decode cX9_copies 101 = .ok (.getfield 29, 3) := by decide +kernel
theorem dX9_copies_104 : decode cX9_copies 104 = .ok (.iconst 2, 1) := by decide +kernel
theorem dX9_copies_105 : decode cX9_copies 105 = .ok (.iload_n 2, 1) := by decide +kernel
theorem dX9_copies_106 : decode cX9_copies 106 = .ok (.imul, 1) := by decide +kernel
theorem dX9_copies_107 : decode cX9_copies 107 = .ok (.iload_n 3, 1) := by decide +kernel
theorem dX9_copies_108 : decode cX9_copies 108 = .ok (.iadd, 1) := by decide +kernel
theorem dX9_copies_109 : decode cX9_copies 109 = .ok (.aload_n 0, 1) := by decide +kernel
theorem dX9_copies_110 : decode cX9_copies 110 = .ok (.getfield 29, 3) := by decide +kernel
theorem dX9_copies_113 : decode cX9_copies 113 = .ok (.iconst 2, 1) := by decide +kernel
theorem dX9_copies_114 : decode cX9_copies 114 = .ok (.iload_n 1, 1) := by decide +kernel
theorem dX9_copies_115 : decode cX9_copies 115 = .ok (.imul, 1) := by decide +kernel
theorem dX9_copies_116 : decode cX9_copies 116 = .ok (.iload_n 3, 1) := by decide +kernel
theorem dX9_copies_117 : decode cX9_copies 117 = .ok (.iadd, 1) := by decide +kernel
theorem dX9_copies_118 : decode cX9_copies 118 = .ok (.iaload, 1) := by decide +kernel
theorem dX9_copies_119 : decode cX9_copies 119 = .ok (.iastore, 1) := by decide +kernel
theorem dX9_copies_120 : decode cX9_copies 120 = .ok (.iconst 0, 1) := by decide +kernel
theorem dX9_copies_121 : decode cX9_copies 121 = .ok (.istore 4, 2) := by decide +kernel
theorem dX9_copies_123 : decode cX9_copies 123 = .ok (.iload 4, 2) := by decide +kernel
theorem dX9_copies_125 : decode cX9_copies 125 = .ok (.aload_n 0, 1) := by decide +kernel
theorem dX9_copies_126 : decode cX9_copies 126 = .ok (.getfield 29, 3) := by decide +kernel
theorem dX9_copies_129 : decode cX9_copies 129 = .ok (.iconst 2, 1) := by decide +kernel
theorem dX9_copies_130 : decode cX9_copies 130 = .ok (.iload_n 1, 1) := by decide +kernel
theorem dX9_copies_131 : decode cX9_copies 131 = .ok (.imul, 1) := by decide +kernel
theorem dX9_copies_132 : decode cX9_copies 132 = .ok (.iload_n 3, 1) := by decide +kernel
theorem dX9_copies_133 : decode cX9_copies 133 = .ok (.iadd, 1) := by decide +kernel
theorem dX9_copies_134 : decode cX9_copies 134 = .ok (.iaload, 1) := by decide +kernel
theorem dX9_copies_135 : decode cX9_copies 135 = .ok (.if_icmp .ge 43, 3) := by decide +kernel
theorem dX9_copies_138 : decode cX9_copies 138 = .ok (.aload_n 0, 1) := by decide +kernel
theorem dX9_copies_139 : decode cX9_copies 139 = .ok (.getfield 33, 3) := by decide +kernel
theorem dX9_copies_142 : decode cX9_copies 142 = .ok (.iconst 2, 1) := by decide +kernel
theorem dX9_copies_143 : decode cX9_copies 143 = .ok (.iload_n 2, 1) := by decide +kernel
theorem dX9_copies_144 : decode cX9_copies 144 = .ok (.imul, 1) := by decide +kernel
theorem dX9_copies_145 : decode cX9_copies 145 = .ok (.iload_n 3, 1) := by decide +kernel
theorem dX9_copies_146 : decode cX9_copies 146 = .ok (.iadd, 1) := by decide +kernel
theorem dX9_copies_147 : decode cX9_copies 147 = .ok (.sipush 420, 3) := by decide +kernel
theorem dX9_copies_150 : decode cX9_copies 150 = .ok (.imul, 1) := by decide +kernel
theorem dX9_copies_151 : decode cX9_copies 151 = .ok (.iload 4, 2) := by decide +kernel
theorem dX9_copies_153 : decode cX9_copies 153 = .ok (.iadd, 1) := by decide +kernel
theorem dX9_copies_154 : decode cX9_copies 154 = .ok (.aload_n 0, 1) := by decide +kernel
theorem dX9_copies_155 : decode cX9_copies 155 = .ok (.getfield 33, 3) := by decide +kernel
theorem dX9_copies_158 : decode cX9_copies 158 = .ok (.iconst 2, 1) := by decide +kernel
theorem dX9_copies_159 : decode cX9_copies 159 = .ok (.iload_n 1, 1) := by decide +kernel
theorem dX9_copies_160 : decode cX9_copies 160 = .ok (.imul, 1) := by decide +kernel
theorem dX9_copies_161 : decode cX9_copies 161 = .ok (.iload_n 3, 1) := by decide +kernel
theorem dX9_copies_162 : decode cX9_copies 162 = .ok (.iadd, 1) := by decide +kernel
theorem dX9_copies_163 : decode cX9_copies 163 = .ok (.sipush 420, 3) := by decide +kernel
theorem dX9_copies_166 : decode cX9_copies 166 = .ok (.imul, 1) := by decide +kernel
theorem dX9_copies_167 : decode cX9_copies 167 = .ok (.iload 4, 2) := by decide +kernel
theorem dX9_copies_169 : decode cX9_copies 169 = .ok (.iadd, 1) := by decide +kernel
theorem dX9_copies_170 : decode cX9_copies 170 = .ok (.iaload, 1) := by decide +kernel
theorem dX9_copies_171 : decode cX9_copies 171 = .ok (.iastore, 1) := by decide +kernel
theorem dX9_copies_172 : decode cX9_copies 172 = .ok (.iinc 4 1, 3) := by decide +kernel
theorem dX9_copies_175 : decode cX9_copies 175 = .ok (.goto (-52), 3) := by decide +kernel
theorem dX9_copies_178 : decode cX9_copies 178 = .ok (.iinc 3 1, 3) := by decide +kernel
theorem dX9_copies_181 : decode cX9_copies 181 = .ok (.goto (-86), 3) := by decide +kernel
theorem dX9_copies_184 : decode cX9_copies 184 = .ok (.return_, 1) := by decide +kernel
theorem dX9_place_0 : decode cX9_place 0 = .ok (.aload_n 0, 1) := by decide +kernel
theorem dX9_place_1 : decode cX9_place 1 = .ok (.getfield 36, 3) := by decide +kernel
theorem dX9_place_4 : decode cX9_place 4 = .ok (.aload_n 0, 1) := by decide +kernel
theorem dX9_place_5 : decode cX9_place 5 = .ok (.getfield 62, 3) := by decide +kernel
theorem dX9_place_8 : decode cX9_place 8 = .ok (.iload_n 1, 1) := by decide +kernel
theorem dX9_place_9 : decode cX9_place 9 = .ok (.iastore, 1) := by decide +kernel
theorem dX9_place_10 : decode cX9_place 10 = .ok (.aload_n 0, 1) := by decide +kernel
theorem dX9_place_11 : decode cX9_place 11 = .ok (.getfield 39, 3) := by decide +kernel
theorem dX9_place_14 : decode cX9_place 14 = .ok (.aload_n 0, 1) := by decide +kernel
theorem dX9_place_15 : decode cX9_place 15 = .ok (.getfield 62, 3) := by decide +kernel
theorem dX9_place_18 : decode cX9_place 18 = .ok (.iconst (-1), 1) := by decide +kernel
theorem dX9_place_19 : decode cX9_place 19 = .ok (.iastore, 1) := by decide +kernel
theorem dX9_place_20 : decode cX9_place 20 = .ok (.aload_n 0, 1) := by decide +kernel
theorem dX9_place_21 : decode cX9_place 21 = .ok (.getfield 42, 3) := by decide +kernel
theorem dX9_place_24 : decode cX9_place 24 = .ok (.aload_n 0, 1) := by decide +kernel
theorem dX9_place_25 : decode cX9_place 25 = .ok (.getfield 62, 3) := by decide +kernel
theorem dX9_place_28 : decode cX9_place 28 = .ok (.iconst (-1), 1) := by decide +kernel
theorem dX9_place_29 : decode cX9_place 29 = .ok (.iastore, 1) := by decide +kernel
theorem dX9_place_30 : decode cX9_place 30 = .ok (.aload_n 0, 1) := by decide +kernel
theorem dX9_place_31 : decode cX9_place 31 = .ok (.dup, 1) := by decide +kernel
theorem dX9_place_32 : decode cX9_place 32 = .ok (.getfield 62, 3) := by decide +kernel
theorem dX9_place_35 : decode cX9_place 35 = .ok (.iconst 1, 1) := by decide +kernel
theorem dX9_place_36 : decode cX9_place 36 = .ok (.iadd, 1) := by decide +kernel
theorem dX9_place_37 : decode cX9_place 37 = .ok (.putfield 62, 3) := by decide +kernel
theorem dX9_place_40 : decode cX9_place 40 = .ok (.aload_n 0, 1) := by decide +kernel
theorem dX9_place_41 : decode cX9_place 41 = .ok (.getfield 62, 3) := by decide +kernel
theorem dX9_place_44 : decode cX9_place 44 = .ok (.iconst 1, 1) := by decide +kernel
theorem dX9_place_45 : decode cX9_place 45 = .ok (.isub, 1) := by decide +kernel
theorem dX9_place_46 : decode cX9_place 46 = .ok (.ireturn, 1) := by decide +kernel
theorem dX9_puts_0 : decode cX9_puts 0 = .ok (.aload_n 0, 1) := by decide +kernel
theorem dX9_puts_1 : decode cX9_puts 1 = .ok (.getfield 42, 3) := by decide +kernel
theorem dX9_puts_4 : decode cX9_puts 4 = .ok (.iload_n 2, 1) := by decide +kernel
theorem dX9_puts_5 : decode cX9_puts 5 = .ok (.iconst (-1), 1) := by decide +kernel
theorem dX9_puts_6 : decode cX9_puts 6 = .ok (.iastore, 1) := by decide +kernel
theorem dX9_puts_7 : decode cX9_puts 7 = .ok (.aload_n 0, 1) := by decide +kernel
theorem dX9_puts_8 : decode cX9_puts 8 = .ok (.getfield 39, 3) := by decide +kernel
theorem dX9_puts_11 : decode cX9_puts 11 = .ok (.iload_n 1, 1) := by decide +kernel
theorem dX9_puts_12 : decode cX9_puts 12 = .ok (.iaload, 1) := by decide +kernel
theorem dX9_puts_13 : decode cX9_puts 13 = .ok (.ifCond .ge 11, 3) := by decide +kernel
theorem dX9_puts_16 : decode cX9_puts 16 = .ok (.aload_n 0, 1) := by decide +kernel
theorem dX9_puts_17 : decode cX9_puts 17 = .ok (.getfield 39, 3) := by decide +kernel
theorem dX9_puts_20 : decode cX9_puts 20 = .ok (.iload_n 1, 1) := by decide +kernel
theorem dX9_puts_21 : decode cX9_puts 21 = .ok (.iload_n 2, 1) := by decide +kernel
theorem dX9_puts_22 : decode cX9_puts 22 = .ok (.iastore, 1) := by decide +kernel
theorem dX9_puts_23 : decode cX9_puts 23 = .ok (.return_, 1) := by decide +kernel
theorem dX9_puts_24 : decode cX9_puts 24 = .ok (.aload_n 0, 1) := by decide +kernel
theorem dX9_puts_25 : decode cX9_puts 25 = .ok (.getfield 39, 3) := by decide +kernel
theorem dX9_puts_28 : decode cX9_puts 28 = .ok (.iload_n 1, 1) := by decide +kernel
theorem dX9_puts_29 : decode cX9_puts 29 = .ok (.iaload, 1) := by decide +kernel
theorem dX9_puts_30 : decode cX9_puts 30 = .ok (.istore_n 3, 1) := by decide +kernel
theorem dX9_puts_31 : decode cX9_puts 31 = .ok (.aload_n 0, 1) := by decide +kernel
theorem dX9_puts_32 : decode cX9_puts 32 = .ok (.getfield 42, 3) := by decide +kernel
theorem dX9_puts_35 : decode cX9_puts 35 = .ok (.iload_n 3, 1) := by decide +kernel
theorem dX9_puts_36 : decode cX9_puts 36 = .ok (.iaload, 1) := by decide +kernel
theorem dX9_puts_37 : decode cX9_puts 37 = .ok (.ifCond .lt 13, 3) := by decide +kernel
theorem dX9_puts_40 : decode cX9_puts 40 = .ok (.aload_n 0, 1) := by decide +kernel
theorem dX9_puts_41 : decode cX9_puts 41 = .ok (.getfield 42, 3) := by decide +kernel
theorem dX9_puts_44 : decode cX9_puts 44 = .ok (.iload_n 3, 1) := by decide +kernel
theorem dX9_puts_45 : decode cX9_puts 45 = .ok (.iaload, 1) := by decide +kernel
theorem dX9_puts_46 : decode cX9_puts 46 = .ok (.istore_n 3, 1) := by decide +kernel
theorem dX9_puts_47 : decode cX9_puts 47 = .ok (.goto (-16), 3) := by decide +kernel
theorem dX9_puts_50 : decode cX9_puts 50 = .ok (.aload_n 0, 1) := by decide +kernel
theorem dX9_puts_51 : decode cX9_puts 51 = .ok (.getfield 42, 3) := by decide +kernel
theorem dX9_puts_54 : decode cX9_puts 54 = .ok (.iload_n 3, 1) := by decide +kernel
theorem dX9_puts_55 : decode cX9_puts 55 = .ok (.iload_n 2, 1) := by decide +kernel
theorem dX9_puts_56 : decode cX9_puts 56 = .ok (.iastore, 1) := by decide +kernel
theorem dX9_puts_57 : decode cX9_puts 57 = .ok (.return_, 1) := by decide +kernel
theorem dX9_tree_0 : decode cX9_tree 0 = .ok (.aload_n 0, 1) := by decide +kernel
theorem dX9_tree_1 : decode cX9_tree 1 = .ok (.getfield 33, 3) := by decide +kernel
theorem dX9_tree_4 : decode cX9_tree 4 = .ok (.iload_n 1, 1) := by decide +kernel
theorem dX9_tree_5 : decode cX9_tree 5 = .ok (.aload_n 0, 1) := by decide +kernel
theorem dX9_tree_6 : decode cX9_tree 6 = .ok (.getfield 65, 3) := by decide +kernel
theorem dX9_tree_9 : decode cX9_tree 9 = .ok (.iadd, 1) := by decide +kernel
theorem dX9_tree_10 : decode cX9_tree 10 = .ok (.iaload, 1) := by decide +kernel
theorem dX9_tree_11 : decode cX9_tree 11 = .ok (.istore_n 2, 1) := by decide +kernel
theorem dX9_tree_12 : decode cX9_tree 12 = .ok (.aload_n 0, 1) := by decide +kernel
theorem dX9_tree_13 : decode cX9_tree 13 = .ok (.dup, 1) := by decide +kernel
theorem dX9_tree_14 : decode cX9_tree 14 = .ok (.getfield 65, 3) := by decide +kernel
theorem dX9_tree_17 : decode cX9_tree 17 = .ok (.iconst 1, 1) := by decide +kernel
theorem dX9_tree_18 : decode cX9_tree 18 = .ok (.iadd, 1) := by decide +kernel
theorem dX9_tree_19 : decode cX9_tree 19 = .ok (.putfield 65, 3) := by decide +kernel
theorem dX9_tree_22 : decode cX9_tree 22 = .ok (.aload_n 0, 1) := by decide +kernel
theorem dX9_tree_23 : decode cX9_tree 23 = .ok (.iload_n 2, 1) := by decide +kernel
theorem dX9_tree_24 : decode cX9_tree 24 = .ok (.sipush 2000, 3) := by decide +kernel
theorem dX9_tree_27 : decode cX9_tree 27 = .ok (.if_icmp .lt 9, 3) := by decide +kernel
theorem dX9_tree_30 : decode cX9_tree 30 = .ok (.sipush 2000, 3) := by decide +kernel
theorem dX9_tree_33 : decode cX9_tree 33 = .ok (.goto 17, 3) := by decide +kernel
theorem dX9_tree_36 : decode cX9_tree 36 = .ok (.iload_n 2, 1) := by decide +kernel
theorem dX9_tree_37 : decode cX9_tree 37 = .ok (.sipush 1000, 3) := by decide +kernel
theorem dX9_tree_40 : decode cX9_tree 40 = .ok (.if_icmp .lt 9, 3) := by decide +kernel
theorem dX9_tree_43 : decode cX9_tree 43 = .ok (.sipush 1000, 3) := by decide +kernel
theorem dX9_tree_46 : decode cX9_tree 46 = .ok (.goto 4, 3) := by decide +kernel
theorem dX9_tree_49 : decode cX9_tree 49 = .ok (.iload_n 2, 1) := by decide +kernel
theorem dX9_tree_50 : decode cX9_tree 50 = .ok (.invokevirtual 68, 3) := by decide +kernel
theorem dX9_tree_53 : decode cX9_tree 53 = .ok (.istore_n 3, 1) := by decide +kernel
theorem dX9_tree_54 : decode cX9_tree 54 = .ok (.iload_n 2, 1) := by decide +kernel
theorem dX9_tree_55 : decode cX9_tree 55 = .ok (.sipush 2000, 3) := by decide +kernel
theorem dX9_tree_58 : decode cX9_tree 58 = .ok (.if_icmp .lt 11, 3) := by decide +kernel
theorem dX9_tree_61 : decode cX9_tree 61 = .ok (.iload_n 2, 1) := by decide +kernel
theorem dX9_tree_62 : decode cX9_tree 62 = .ok (.sipush 2000, 3) := by decide +kernel
theorem dX9_tree_65 : decode cX9_tree 65 = .ok (.isub, 1) := by decide +kernel
theorem dX9_tree_66 : decode cX9_tree 66 = .ok (.goto 29, 3) := by decide +kernel
theorem dX9_tree_69 : decode cX9_tree 69 = .ok (.iload_n 2, 1) := by decide +kernel
theorem dX9_tree_70 : decode cX9_tree 70 = .ok (.sipush 1000, 3) := by decide +kernel
theorem dX9_tree_73 : decode cX9_tree 73 = .ok (.if_icmp .lt 11, 3) := by decide +kernel
theorem dX9_tree_76 : decode cX9_tree 76 = .ok (.iload_n 2, 1) := by decide +kernel
theorem dX9_tree_77 : decode cX9_tree 77 = .ok (.sipush 1000, 3) := by decide +kernel
theorem dX9_tree_80 : decode cX9_tree 80 = .ok (.isub, 1) := by decide +kernel
theorem dX9_tree_81 : decode cX9_tree 81 = .ok (.goto 14, 3) := by decide +kernel
theorem dX9_tree_84 : decode cX9_tree 84 = .ok (.iload_n 2, 1) := by decide +kernel
theorem dX9_tree_85 : decode cX9_tree 85 = .ok (.bipush 10, 2) := by decide +kernel
theorem dX9_tree_87 : decode cX9_tree 87 = .ok (.if_icmp .ne 7, 3) := by decide +kernel
theorem dX9_tree_90 : decode cX9_tree 90 = .ok (.iconst 1, 1) := by decide +kernel
theorem dX9_tree_91 : decode cX9_tree 91 = .ok (.goto 4, 3) := by decide +kernel
theorem dX9_tree_94 : decode cX9_tree 94 = .ok (.iconst 0, 1) := by decide +kernel
theorem dX9_tree_95 : decode cX9_tree 95 = .ok (.istore 4, 2) := by decide +kernel
theorem dX9_tree_97 : decode cX9_tree 97 = .ok (.iconst 0, 1) := by decide +kernel
theorem dX9_tree_98 : decode cX9_tree 98 = .ok (.istore 5, 2) := by decide +kernel
theorem dX9_tree_100 : decode cX9_tree 100 = .ok (.iload 5, 2) := by decide +kernel
theorem dX9_tree_102 : decode cX9_tree 102 = .ok (.iload 4, 2) := by decide +kernel
theorem dX9_tree_104 : decode cX9_tree 104 = .ok (.if_icmp .ge 19, 3) := by decide +kernel
theorem dX9_tree_107 : decode cX9_tree 107 = .ok (.aload_n 0, 1) := by decide +kernel
theorem dX9_tree_108 : decode cX9_tree 108 = .ok (.iload_n 3, 1) := by decide +kernel
theorem dX9_tree_109 : decode cX9_tree 109 = .ok (.aload_n 0, 1) := by decide +kernel
theorem dX9_tree_110 : decode cX9_tree 110 = .ok (.iload_n 1, 1) := by decide +kernel
theorem dX9_tree_111 : decode cX9_tree 111 = .ok (.invokevirtual 72, 3) := by decide +kernel
theorem dX9_tree_114 : decode cX9_tree 114 = .ok (.invokevirtual 75, 3) := by decide +kernel
theorem dX9_tree_117 : decode cX9_tree 117 = .ok (.iinc 5 1, 3) := by decide +kernel
theorem dX9_tree_120 : decode cX9_tree 120 = .ok (.goto (-20), 3) := by decide +kernel
theorem dX9_tree_123 : decode cX9_tree 123 = .ok (.iload_n 3, 1) := by decide +kernel
theorem dX9_tree_124 : decode cX9_tree 124 = .ok (.ireturn, 1) := by decide +kernel
theorem dX9_eased_0 : decode cX9_eased 0 = .ok (.aload_n 0, 1) := by decide +kernel
theorem dX9_eased_1 : decode cX9_eased 1 = .ok (.getfield 36, 3) := by decide +kernel
theorem dX9_eased_4 : decode cX9_eased 4 = .ok (.iload_n 1, 1) := by decide +kernel
theorem dX9_eased_5 : decode cX9_eased 5 = .ok (.iaload, 1) := by decide +kernel
theorem dX9_eased_6 : decode cX9_eased 6 = .ok (.bipush 10, 2) := by decide +kernel
theorem dX9_eased_8 : decode cX9_eased 8 = .ok (.if_icmp .ne 35, 3) := by decide +kernel
theorem dX9_eased_11 : decode cX9_eased 11 = .ok (.aload_n 0, 1) := by decide +kernel
theorem dX9_eased_12 : decode cX9_eased 12 = .ok (.getfield 36, 3) := by decide +kernel
theorem dX9_eased_15 : decode cX9_eased 15 = .ok (.aload_n 0, 1) := by decide +kernel
theorem dX9_eased_16 : decode cX9_eased 16 = .ok (.getfield 39, 3) := by decide +kernel
theorem dX9_eased_19 : decode cX9_eased 19 = .ok (.iload_n 1, 1) := by decide +kernel
theorem dX9_eased_20 : decode cX9_eased 20 = .ok (.iaload, 1) := by decide +kernel
theorem dX9_eased_21 : decode cX9_eased 21 = .ok (.iaload, 1) := by decide +kernel
theorem dX9_eased_22 : decode cX9_eased 22 = .ok (.bipush 10, 2) := by decide +kernel
theorem dX9_eased_24 : decode cX9_eased 24 = .ok (.if_icmp .ne 19, 3) := by decide +kernel
theorem dX9_eased_27 : decode cX9_eased 27 = .ok (.aload_n 0, 1) := by decide +kernel
theorem dX9_eased_28 : decode cX9_eased 28 = .ok (.aload_n 0, 1) := by decide +kernel
theorem dX9_eased_29 : decode cX9_eased 29 = .ok (.getfield 39, 3) := by decide +kernel
theorem dX9_eased_32 : decode cX9_eased 32 = .ok (.aload_n 0, 1) := by decide +kernel
theorem dX9_eased_33 : decode cX9_eased 33 = .ok (.getfield 39, 3) := by decide +kernel
theorem dX9_eased_36 : decode cX9_eased 36 = .ok (.iload_n 1, 1) := by decide +kernel
theorem dX9_eased_37 : decode cX9_eased 37 = .ok (.iaload, 1) := by decide +kernel
theorem dX9_eased_38 : decode cX9_eased 38 = .ok (.iaload, 1) := by decide +kernel
theorem dX9_eased_39 : decode cX9_eased 39 = .ok (.invokevirtual 79, 3) := by decide +kernel
theorem dX9_eased_42 : decode cX9_eased 42 = .ok (.ireturn, 1) := by decide +kernel
theorem dX9_eased_43 : decode cX9_eased 43 = .ok (.aload_n 0, 1) := by decide +kernel
theorem dX9_eased_44 : decode cX9_eased 44 = .ok (.getfield 39, 3) := by decide +kernel
theorem dX9_eased_47 : decode cX9_eased 47 = .ok (.iload_n 1, 1) := by decide +kernel
theorem dX9_eased_48 : decode cX9_eased 48 = .ok (.iaload, 1) := by decide +kernel
theorem dX9_eased_49 : decode cX9_eased 49 = .ok (.istore_n 2, 1) := by decide +kernel
theorem dX9_eased_50 : decode cX9_eased 50 = .ok (.aload_n 0, 1) := by decide +kernel
theorem dX9_eased_51 : decode cX9_eased 51 = .ok (.getfield 39, 3) := by decide +kernel
theorem dX9_eased_54 : decode cX9_eased 54 = .ok (.iload_n 1, 1) := by decide +kernel
theorem dX9_eased_55 : decode cX9_eased 55 = .ok (.iconst (-1), 1) := by decide +kernel
theorem dX9_eased_56 : decode cX9_eased 56 = .ok (.iastore, 1) := by decide +kernel
theorem dX9_eased_57 : decode cX9_eased 57 = .ok (.iload_n 2, 1) := by decide +kernel
theorem dX9_eased_58 : decode cX9_eased 58 = .ok (.ifCond .lt 25, 3) := by decide +kernel
theorem dX9_eased_61 : decode cX9_eased 61 = .ok (.aload_n 0, 1) := by decide +kernel
theorem dX9_eased_62 : decode cX9_eased 62 = .ok (.getfield 42, 3) := by decide +kernel
theorem dX9_eased_65 : decode cX9_eased 65 = .ok (.iload_n 2, 1) := by decide +kernel
theorem dX9_eased_66 : decode cX9_eased 66 = .ok (.iaload, 1) := by decide +kernel
theorem dX9_eased_67 : decode cX9_eased 67 = .ok (.istore_n 3, 1) := by decide +kernel
theorem dX9_eased_68 : decode cX9_eased 68 = .ok (.aload_n 0, 1) := by decide +kernel
theorem dX9_eased_69 : decode cX9_eased 69 = .ok (.iload_n 1, 1) := by decide +kernel
theorem dX9_eased_70 : decode cX9_eased 70 = .ok (.aload_n 0, 1) := by decide +kernel
theorem dX9_eased_71 : decode cX9_eased 71 = .ok (.iload_n 2, 1) := by decide +kernel
theorem dX9_eased_72 : decode cX9_eased 72 = .ok (.invokevirtual 79, 3) := by decide +kernel
theorem dX9_eased_75 : decode cX9_eased 75 = .ok (.invokevirtual 75, 3) := by decide +kernel
theorem dX9_eased_78 : decode cX9_eased 78 = .ok (.iload_n 3, 1) := by decide +kernel
theorem dX9_eased_79 : decode cX9_eased 79 = .ok (.istore_n 2, 1) := by decide +kernel
theorem dX9_eased_80 : decode cX9_eased 80 = .ok (.goto (-23), 3) := by decide +kernel
theorem dX9_eased_83 : decode cX9_eased 83 = .ok (.iload_n 1, 1) := by decide +kernel
theorem dX9_eased_84 : decode cX9_eased 84 = .ok (.ireturn, 1) := by decide +kernel
theorem dX9_size_0 : decode cX9_size 0 = .ok (.aload_n 0, 1) := by decide +kernel
theorem dX9_size_1 : decode cX9_size 1 = .ok (.getfield 36, 3) := by decide +kernel
theorem dX9_size_4 : decode cX9_size 4 = .ok (.iload_n 1, 1) := by decide +kernel
theorem dX9_size_5 : decode cX9_size 5 = .ok (.iaload, 1) := by decide +kernel
theorem dX9_size_6 : decode cX9_size 6 = .ok (.iload_n 2, 1) := by decide +kernel
theorem dX9_size_7 : decode cX9_size 7 = .ok (.if_icmp .eq 5, 3) := by decide +kernel
theorem dX9_size_10 : decode cX9_size 10 = .ok (.iconst 1, 1) := by decide +kernel
theorem dX9_size_11 : decode cX9_size 11 = .ok (.ireturn, 1) := by decide +kernel
theorem dX9_size_12 : decode cX9_size 12 = .ok (.iconst 0, 1) := by decide +kernel
theorem dX9_size_13 : decode cX9_size 13 = .ok (.istore_n 3, 1) := by decide +kernel
theorem dX9_size_14 : decode cX9_size 14 = .ok (.aload_n 0, 1) := by decide +kernel
theorem dX9_size_15 : decode cX9_size 15 = .ok (.getfield 39, 3) := by decide +kernel
theorem dX9_size_18 : decode cX9_size 18 = .ok (.iload_n 1, 1) := by decide +kernel
theorem dX9_size_19 : decode cX9_size 19 = .ok (.iaload, 1) := by decide +kernel
theorem dX9_size_20 : decode cX9_size 20 = .ok (.istore 4, 2) := by decide +kernel
theorem dX9_size_22 : decode cX9_size 22 = .ok (.iload 4, 2) := by decide +kernel
theorem dX9_size_24 : decode cX9_size 24 = .ok (.ifCond .lt 25, 3) := by decide +kernel
theorem dX9_size_27 : decode cX9_size 27 = .ok (.iload_n 3, 1) := by decide +kernel
theorem dX9_size_28 : decode cX9_size 28 = .ok (.aload_n 0, 1) := by decide +kernel
theorem dX9_size_29 : decode cX9_size 29 = .ok (.iload 4, 2) := by decide +kernel
theorem dX9_size_31 : decode cX9_size 31 = .ok (.iload_n 2, 1) := by decide +kernel
theorem dX9_size_32 : decode cX9_size 32 = .ok (.invokevirtual 82, 3) := by decide +kernel
theorem dX9_size_35 : decode cX9_size 35 = .ok (.iadd, 1) := by decide +kernel
theorem dX9_size_36 : decode cX9_size 36 = .ok (.istore_n 3, 1) := by decide +kernel
theorem dX9_size_37 : decode cX9_size 37 = .ok (.aload_n 0, 1) := by decide +kernel
theorem dX9_size_38 : decode cX9_size 38 = .ok (.getfield 42, 3) := by decide +kernel
theorem dX9_size_41 : decode cX9_size 41 = .ok (.iload 4, 2) := by decide +kernel
theorem dX9_size_43 : decode cX9_size 43 = .ok (.iaload, 1) := by decide +kernel
theorem dX9_size_44 : decode cX9_size 44 = .ok (.istore 4, 2) := by decide +kernel
theorem dX9_size_46 : decode cX9_size 46 = .ok (.goto (-24), 3) := by decide +kernel
theorem dX9_size_49 : decode cX9_size 49 = .ok (.iload_n 3, 1) := by decide +kernel
theorem dX9_size_50 : decode cX9_size 50 = .ok (.ireturn, 1) := by decide +kernel
theorem dX9_lays_0 : decode cX9_lays 0 = .ok (.aload_n 0, 1) := by decide +kernel
theorem dX9_lays_1 : decode cX9_lays 1 = .ok (.getfield 36, 3) := by decide +kernel
theorem dX9_lays_4 : decode cX9_lays 4 = .ok (.iload_n 1, 1) := by decide +kernel
theorem dX9_lays_5 : decode cX9_lays 5 = .ok (.iaload, 1) := by decide +kernel
theorem dX9_lays_6 : decode cX9_lays 6 = .ok (.bipush 10, 2) := by decide +kernel
theorem dX9_lays_8 : decode cX9_lays 8 = .ok (.if_icmp .ge 31, 3) := by decide +kernel
theorem dX9_lays_11 : decode cX9_lays 11 = .ok (.aload_n 0, 1) := by decide +kernel
theorem dX9_lays_12 : decode cX9_lays 12 = .ok (.getfield 33, 3) := by decide +kernel
theorem dX9_lays_15 : decode cX9_lays 15 = .ok (.iload_n 2, 1) := by decide +kernel
theorem dX9_lays_16 : decode cX9_lays 16 = .ok (.aload_n 0, 1) := by decide +kernel
theorem dX9_lays_17 : decode cX9_lays 17 = .ok (.getfield 86, 3) := by decide +kernel
theorem dX9_lays_20 : decode cX9_lays 20 = .ok (.iadd, 1) := by decide +kernel
theorem dX9_lays_21 : decode cX9_lays 21 = .ok (.aload_n 0, 1) := by decide +kernel
theorem dX9_lays_22 : decode cX9_lays 22 = .ok (.getfield 36, 3) := by decide +kernel
theorem dX9_lays_25 : decode cX9_lays 25 = .ok (.iload_n 1, 1) := by decide +kernel
theorem dX9_lays_26 : decode cX9_lays 26 = .ok (.iaload, 1) := by decide +kernel
theorem dX9_lays_27 : decode cX9_lays 27 = .ok (.iastore, 1) := by decide +kernel
theorem dX9_lays_28 : decode cX9_lays 28 = .ok (.aload_n 0, 1) := by decide +kernel
theorem dX9_lays_29 : decode cX9_lays 29 = .ok (.dup, 1) := by decide +kernel
theorem dX9_lays_30 : decode cX9_lays 30 = .ok (.getfield 86, 3) := by decide +kernel
theorem dX9_lays_33 : decode cX9_lays 33 = .ok (.iconst 1, 1) := by decide +kernel
theorem dX9_lays_34 : decode cX9_lays 34 = .ok (.iadd, 1) := by decide +kernel
theorem dX9_lays_35 : decode cX9_lays 35 = .ok (.putfield 86, 3) := by decide +kernel
theorem dX9_lays_38 : decode cX9_lays 38 = .ok (.return_, 1) := by decide +kernel
theorem dX9_lays_39 : decode cX9_lays 39 = .ok (.aload_n 0, 1) := by decide +kernel
theorem dX9_lays_40 : decode cX9_lays 40 = .ok (.getfield 36, 3) := by decide +kernel
theorem dX9_lays_43 : decode cX9_lays 43 = .ok (.iload_n 1, 1) := by decide +kernel
theorem dX9_lays_44 : decode cX9_lays 44 = .ok (.iaload, 1) := by decide +kernel
theorem dX9_lays_45 : decode cX9_lays 45 = .ok (.bipush 10, 2) := by decide +kernel
theorem dX9_lays_47 : decode cX9_lays 47 = .ok (.if_icmp .ne 38, 3) := by decide +kernel
theorem dX9_lays_50 : decode cX9_lays 50 = .ok (.aload_n 0, 1) := by decide +kernel
theorem dX9_lays_51 : decode cX9_lays 51 = .ok (.getfield 33, 3) := by decide +kernel
theorem dX9_lays_54 : decode cX9_lays 54 = .ok (.iload_n 2, 1) := by decide +kernel
theorem dX9_lays_55 : decode cX9_lays 55 = .ok (.aload_n 0, 1) := by decide +kernel
theorem dX9_lays_56 : decode cX9_lays 56 = .ok (.getfield 86, 3) := by decide +kernel
theorem dX9_lays_59 : decode cX9_lays 59 = .ok (.iadd, 1) := by decide +kernel
theorem dX9_lays_60 : decode cX9_lays 60 = .ok (.bipush 10, 2) := by decide +kernel
theorem dX9_lays_62 : decode cX9_lays 62 = .ok (.iastore, 1) := by decide +kernel
theorem dX9_lays_63 : decode cX9_lays 63 = .ok (.aload_n 0, 1) := by decide +kernel
theorem dX9_lays_64 : decode cX9_lays 64 = .ok (.dup, 1) := by decide +kernel
theorem dX9_lays_65 : decode cX9_lays 65 = .ok (.getfield 86, 3) := by decide +kernel
theorem dX9_lays_68 : decode cX9_lays 68 = .ok (.iconst 1, 1) := by decide +kernel
theorem dX9_lays_69 : decode cX9_lays 69 = .ok (.iadd, 1) := by decide +kernel
theorem dX9_lays_70 : decode cX9_lays 70 = .ok (.putfield 86, 3) := by decide +kernel
theorem dX9_lays_73 : decode cX9_lays 73 = .ok (.aload_n 0, 1) := by decide +kernel
theorem dX9_lays_74 : decode cX9_lays 74 = .ok (.aload_n 0, 1) := by decide +kernel
theorem dX9_lays_75 : decode cX9_lays 75 = .ok (.getfield 39, 3) := by decide +kernel
theorem dX9_lays_78 : decode cX9_lays 78 = .ok (.iload_n 1, 1) := by decide +kernel
theorem dX9_lays_79 : decode cX9_lays 79 = .ok (.iaload, 1) := by decide +kernel
theorem dX9_lays_80 : decode cX9_lays 80 = .ok (.iload_n 2, 1) := by decide +kernel
theorem dX9_lays_81 : decode cX9_lays 81 = .ok (.invokevirtual 89, 3) := by decide +kernel
theorem dX9_lays_84 : decode cX9_lays 84 = .ok (.return_, 1) := by decide +kernel
theorem dX9_lays_85 : decode cX9_lays 85 = .ok (.aload_n 0, 1) := by decide +kernel
theorem dX9_lays_86 : decode cX9_lays 86 = .ok (.getfield 33, 3) := by decide +kernel
theorem dX9_lays_89 : decode cX9_lays 89 = .ok (.iload_n 2, 1) := by decide +kernel
theorem dX9_lays_90 : decode cX9_lays 90 = .ok (.aload_n 0, 1) := by decide +kernel
theorem dX9_lays_91 : decode cX9_lays 91 = .ok (.getfield 86, 3) := by decide +kernel
theorem dX9_lays_94 : decode cX9_lays 94 = .ok (.iadd, 1) := by decide +kernel
theorem dX9_lays_95 : decode cX9_lays 95 = .ok (.aload_n 0, 1) := by decide +kernel
theorem dX9_lays_96 : decode cX9_lays 96 = .ok (.getfield 36, 3) := by decide +kernel
theorem dX9_lays_99 : decode cX9_lays 99 = .ok (.iload_n 1, 1) := by decide +kernel
theorem dX9_lays_100 : decode cX9_lays 100 = .ok (.iaload, 1) := by decide +kernel
theorem dX9_lays_101 : decode cX9_lays 101 = .ok (.aload_n 0, 1) := by decide +kernel
theorem dX9_lays_102 : decode cX9_lays 102 = .ok (.iload_n 1, 1) := by decide +kernel
theorem dX9_lays_103 : decode cX9_lays 103 = .ok (.aload_n 0, 1) := by decide +kernel
theorem dX9_lays_104 : decode cX9_lays 104 = .ok (.getfield 36, 3) := by decide +kernel
theorem dX9_lays_107 : decode cX9_lays 107 = .ok (.iload_n 1, 1) := by decide +kernel
theorem dX9_lays_108 : decode cX9_lays 108 = .ok (.iaload, 1) := by decide +kernel
theorem dX9_lays_109 : decode cX9_lays 109 = .ok (.invokevirtual 82, 3) := by decide +kernel
theorem dX9_lays_112 : decode cX9_lays 112 = .ok (.iadd, 1) := by decide +kernel
theorem dX9_lays_113 : decode cX9_lays 113 = .ok (.iastore, 1) := by decide +kernel
theorem dX9_lays_114 : decode cX9_lays 114 = .ok (.aload_n 0, 1) := by decide +kernel
theorem dX9_lays_115 : decode cX9_lays 115 = .ok (.dup, 1) := by decide +kernel
theorem dX9_lays_116 : decode cX9_lays 116 = .ok (.getfield 86, 3) := by decide +kernel
theorem dX9_lays_119 : decode cX9_lays 119 = .ok (.iconst 1, 1) := by decide +kernel
theorem dX9_lays_120 : decode cX9_lays 120 = .ok (.iadd, 1) := by decide +kernel
theorem dX9_lays_121 : decode cX9_lays 121 = .ok (.putfield 86, 3) := by decide +kernel
theorem dX9_lays_124 : decode cX9_lays 124 = .ok (.aload_n 0, 1) := by decide +kernel
theorem dX9_lays_125 : decode cX9_lays 125 = .ok (.iload_n 1, 1) := by decide +kernel
theorem dX9_lays_126 : decode cX9_lays 126 = .ok (.aload_n 0, 1) := by decide +kernel
theorem dX9_lays_127 : decode cX9_lays 127 = .ok (.getfield 36, 3) := by decide +kernel
theorem dX9_lays_130 : decode cX9_lays 130 = .ok (.iload_n 1, 1) := by decide +kernel
theorem dX9_lays_131 : decode cX9_lays 131 = .ok (.iaload, 1) := by decide +kernel
theorem dX9_lays_132 : decode cX9_lays 132 = .ok (.iload_n 2, 1) := by decide +kernel
theorem dX9_lays_133 : decode cX9_lays 133 = .ok (.invokevirtual 92, 3) := by decide +kernel
theorem dX9_lays_136 : decode cX9_lays 136 = .ok (.return_, 1) := by decide +kernel
theorem dX9_laysThose_0 : decode cX9_laysThose 0 = .ok (.aload_n 0, 1) := by decide +kernel
theorem dX9_laysThose_1 : decode cX9_laysThose 1 = .ok (.getfield 39, 3) := by decide +kernel
theorem dX9_laysThose_4 : decode cX9_laysThose 4 = .ok (.iload_n 1, 1) := by decide +kernel
theorem dX9_laysThose_5 : decode cX9_laysThose 5 = .ok (.iaload, 1) := by decide +kernel
theorem dX9_laysThose_6 : decode cX9_laysThose 6 = .ok (.istore 4, 2) := by decide +kernel
theorem dX9_laysThose_8 : decode cX9_laysThose 8 = .ok (.iload 4, 2) := by decide +kernel
theorem dX9_laysThose_10 : decode cX9_laysThose 10 = .ok (.ifCond .lt 44, 3) := by decide +kernel
theorem dX9_laysThose_13 : decode cX9_laysThose 13 = .ok (.aload_n 0, 1) := by decide +kernel
theorem dX9_laysThose_14 : decode cX9_laysThose 14 = .ok (.getfield 36, 3) := by decide +kernel
theorem dX9_laysThose_17 : decode cX9_laysThose 17 = .ok (.iload 4, 2) := by decide +kernel
theorem dX9_laysThose_19 : decode cX9_laysThose 19 = .ok (.iaload, 1) := by decide +kernel
theorem dX9_laysThose_20 : decode cX9_laysThose 20 = .ok (.iload_n 2, 1) := by decide +kernel
theorem dX9_laysThose_21 : decode cX9_laysThose 21 = .ok (.if_icmp .ne 14, 3) := by decide +kernel
theorem dX9_laysThose_24 : decode cX9_laysThose 24 = .ok (.aload_n 0, 1) := by decide +kernel
theorem dX9_laysThose_25 : decode cX9_laysThose 25 = .ok (.iload 4, 2) := by decide +kernel
theorem dX9_laysThose_27 : decode cX9_laysThose 27 = .ok (.iload_n 2, 1) := by decide +kernel
theorem dX9_laysThose_28 : decode cX9_laysThose 28 = .ok (.iload_n 3, 1) := by decide +kernel
theorem dX9_laysThose_29 : decode cX9_laysThose 29 = .ok (.invokevirtual 92, 3) := by decide +kernel
theorem dX9_laysThose_32 : decode cX9_laysThose 32 = .ok (.goto 10, 3) := by decide +kernel
theorem dX9_laysThose_35 : decode cX9_laysThose 35 = .ok (.aload_n 0, 1) := by decide +kernel
theorem dX9_laysThose_36 : decode cX9_laysThose 36 = .ok (.iload 4, 2) := by decide +kernel
theorem dX9_laysThose_38 : decode cX9_laysThose 38 = .ok (.iload_n 3, 1) := by decide +kernel
theorem dX9_laysThose_39 : decode cX9_laysThose 39 = .ok (.invokevirtual 89, 3) := by decide +kernel
theorem dX9_laysThose_42 : decode cX9_laysThose 42 = .ok (.aload_n 0, 1) := by decide +kernel
theorem dX9_laysThose_43 : decode cX9_laysThose 43 = .ok (.getfield 42, 3) := by decide +kernel
theorem dX9_laysThose_46 : decode cX9_laysThose 46 = .ok (.iload 4, 2) := by decide +kernel
theorem dX9_laysThose_48 : decode cX9_laysThose 48 = .ok (.iaload, 1) := by decide +kernel
theorem dX9_laysThose_49 : decode cX9_laysThose 49 = .ok (.istore 4, 2) := by decide +kernel
theorem dX9_laysThose_51 : decode cX9_laysThose 51 = .ok (.goto (-43), 3) := by decide +kernel
theorem dX9_laysThose_54 : decode cX9_laysThose 54 = .ok (.return_, 1) := by decide +kernel
theorem dX9_laysAll_0 : decode cX9_laysAll 0 = .ok (.aload_n 0, 1) := by decide +kernel
theorem dX9_laysAll_1 : decode cX9_laysAll 1 = .ok (.iconst 0, 1) := by decide +kernel
theorem dX9_laysAll_2 : decode cX9_laysAll 2 = .ok (.putfield 86, 3) := by decide +kernel
theorem dX9_laysAll_5 : decode cX9_laysAll 5 = .ok (.aload_n 0, 1) := by decide +kernel
theorem dX9_laysAll_6 : decode cX9_laysAll 6 = .ok (.iload_n 1, 1) := by decide +kernel
theorem dX9_laysAll_7 : decode cX9_laysAll 7 = .ok (.iload_n 2, 1) := by decide +kernel
theorem dX9_laysAll_8 : decode cX9_laysAll 8 = .ok (.sipush 420, 3) := by decide +kernel
theorem dX9_laysAll_11 : decode cX9_laysAll 11 = .ok (.imul, 1) := by decide +kernel
theorem dX9_laysAll_12 : decode cX9_laysAll 12 = .ok (.invokevirtual 89, 3) := by decide +kernel
theorem dX9_laysAll_15 : decode cX9_laysAll 15 = .ok (.aload_n 0, 1) := by decide +kernel
theorem dX9_laysAll_16 : decode cX9_laysAll 16 = .ok (.getfield 29, 3) := by decide +kernel
theorem dX9_laysAll_19 : decode cX9_laysAll 19 = .ok (.iload_n 2, 1) := by decide +kernel
theorem dX9_laysAll_20 : decode cX9_laysAll 20 = .ok (.aload_n 0, 1) := by decide +kernel
theorem dX9_laysAll_21 : decode cX9_laysAll 21 = .ok (.getfield 86, 3) := by decide +kernel
theorem dX9_laysAll_24 : decode cX9_laysAll 24 = .ok (.iastore, 1) := by decide +kernel
theorem dX9_laysAll_25 : decode cX9_laysAll 25 = .ok (.return_, 1) := by decide +kernel
theorem dX9_treeOf_0 : decode cX9_treeOf 0 = .ok (.aload_n 0, 1) := by decide +kernel
theorem dX9_treeOf_1 : decode cX9_treeOf 1 = .ok (.iconst 0, 1) := by decide +kernel
theorem dX9_treeOf_2 : decode cX9_treeOf 2 = .ok (.putfield 65, 3) := by decide +kernel
theorem dX9_treeOf_5 : decode cX9_treeOf 5 = .ok (.aload_n 0, 1) := by decide +kernel
theorem dX9_treeOf_6 : decode cX9_treeOf 6 = .ok (.iload_n 1, 1) := by decide +kernel
theorem dX9_treeOf_7 : decode cX9_treeOf 7 = .ok (.sipush 420, 3) := by decide +kernel
theorem dX9_treeOf_10 : decode cX9_treeOf 10 = .ok (.imul, 1) := by decide +kernel
theorem dX9_treeOf_11 : decode cX9_treeOf 11 = .ok (.invokevirtual 72, 3) := by decide +kernel
theorem dX9_treeOf_14 : decode cX9_treeOf 14 = .ok (.ireturn, 1) := by decide +kernel
theorem dX9_feed_0 : decode cX9_feed 0 = .ok (.aload_n 0, 1) := by decide +kernel
theorem dX9_feed_1 : decode cX9_feed 1 = .ok (.iconst 0, 1) := by decide +kernel
theorem dX9_feed_2 : decode cX9_feed 2 = .ok (.putfield 59, 3) := by decide +kernel
theorem dX9_feed_5 : decode cX9_feed 5 = .ok (.aload_n 0, 1) := by decide +kernel
theorem dX9_feed_6 : decode cX9_feed 6 = .ok (.getfield 96, 3) := by decide +kernel
theorem dX9_feed_9 : decode cX9_feed 9 = .ok (.bipush 20, 2) := by decide +kernel
theorem dX9_feed_11 : decode cX9_feed 11 = .ok (.iadd, 1) := by decide +kernel
theorem dX9_feed_12 : decode cX9_feed 12 = .ok (.sipush 400, 3) := by decide +kernel
theorem dX9_feed_15 : decode cX9_feed 15 = .ok (.if_icmp .le 5, 3) := by decide +kernel
theorem dX9_feed_18 : decode cX9_feed 18 = .ok (.iconst (-1), 1) := by decide +kernel
theorem dX9_feed_19 : decode cX9_feed 19 = .ok (.ireturn, 1) := by decide +kernel
theorem dX9_feed_20 : decode cX9_feed 20 = .ok (.aload_n 0, 1) := by decide +kernel
theorem dX9_feed_21 : decode cX9_feed 21 = .ok (.getfield 53, 3) := by decide +kernel
theorem dX9_feed_24 : decode cX9_feed 24 = .ok (.iconst 0, 1) := by decide +kernel
theorem dX9_feed_25 : decode cX9_feed 25 = .ok (.iload_n 1, 1) := by decide +kernel
theorem dX9_feed_26 : decode cX9_feed 26 = .ok (.iastore, 1) := by decide +kernel
theorem dX9_feed_27 : decode cX9_feed 27 = .ok (.aload_n 0, 1) := by decide +kernel
theorem dX9_feed_28 : decode cX9_feed 28 = .ok (.getfield 53, 3) := by decide +kernel
theorem dX9_feed_31 : decode cX9_feed 31 = .ok (.iconst 1, 1) := by decide +kernel
theorem dX9_feed_32 : decode cX9_feed 32 = .ok (.iload_n 2, 1) := by decide +kernel
theorem dX9_feed_33 : decode cX9_feed 33 = .ok (.iastore, 1) := by decide +kernel
theorem dX9_feed_34 : decode cX9_feed 34 = .ok (.aload_n 0, 1) := by decide +kernel
theorem dX9_feed_35 : decode cX9_feed 35 = .ok (.getfield 53, 3) := by decide +kernel
theorem dX9_feed_38 : decode cX9_feed 38 = .ok (.iconst 2, 1) := by decide +kernel
theorem dX9_feed_39 : decode cX9_feed 39 = .ok (.iload_n 3, 1) := by decide +kernel
theorem dX9_feed_40 : decode cX9_feed 40 = .ok (.iastore, 1) := by decide +kernel
theorem dX9_feed_41 : decode cX9_feed 41 = .ok (.aload_n 0, 1) := by decide +kernel
theorem dX9_feed_42 : decode cX9_feed 42 = .ok (.getfield 53, 3) := by decide +kernel
theorem dX9_feed_45 : decode cX9_feed 45 = .ok (.iconst 3, 1) := by decide +kernel
theorem dX9_feed_46 : decode cX9_feed 46 = .ok (.iload 4, 2) := by decide +kernel
theorem dX9_feed_48 : decode cX9_feed 48 = .ok (.iastore, 1) := by decide +kernel
theorem dX9_feed_49 : decode cX9_feed 49 = .ok (.aload_n 0, 1) := by decide +kernel
theorem dX9_feed_50 : decode cX9_feed 50 = .ok (.getfield 53, 3) := by decide +kernel
theorem dX9_feed_53 : decode cX9_feed 53 = .ok (.iconst 4, 1) := by decide +kernel
theorem dX9_feed_54 : decode cX9_feed 54 = .ok (.iload 5, 2) := by decide +kernel
theorem dX9_feed_56 : decode cX9_feed 56 = .ok (.iastore, 1) := by decide +kernel
theorem dX9_feed_57 : decode cX9_feed 57 = .ok (.iconst 0, 1) := by decide +kernel
theorem dX9_feed_58 : decode cX9_feed 58 = .ok (.istore 6, 2) := by decide +kernel
theorem dX9_feed_60 : decode cX9_feed 60 = .ok (.iload 6, 2) := by decide +kernel
theorem dX9_feed_62 : decode cX9_feed 62 = .ok (.bipush 20, 2) := by decide +kernel
theorem dX9_feed_64 : decode cX9_feed 64 = .ok (.if_icmp .ge 42, 3) := by decide +kernel
theorem dX9_feed_67 : decode cX9_feed 67 = .ok (.aload_n 0, 1) := by decide +kernel
theorem dX9_feed_68 : decode cX9_feed 68 = .ok (.getfield 45, 3) := by decide +kernel
theorem dX9_feed_71 : decode cX9_feed 71 = .ok (.aload_n 0, 1) := by decide +kernel
theorem dX9_feed_72 : decode cX9_feed 72 = .ok (.getfield 96, 3) := by decide +kernel
theorem dX9_feed_75 : decode cX9_feed 75 = .ok (.iload 6, 2) := by decide +kernel
theorem dX9_feed_77 : decode cX9_feed 77 = .ok (.iadd, 1) := by decide +kernel
theorem dX9_feed_78 : decode cX9_feed 78 = .ok (.aload_n 0, 1) := by decide +kernel
theorem dX9_feed_79 : decode cX9_feed 79 = .ok (.getfield 53, 3) := by decide +kernel
theorem dX9_feed_82 : decode cX9_feed 82 = .ok (.iload 6, 2) := by decide +kernel
theorem dX9_feed_84 : decode cX9_feed 84 = .ok (.iconst 4, 1) := by decide +kernel
theorem dX9_feed_85 : decode cX9_feed 85 = .ok (.idiv, 1) := by decide +kernel
theorem dX9_feed_86 : decode cX9_feed 86 = .ok (.iaload, 1) := by decide +kernel
theorem dX9_feed_87 : decode cX9_feed 87 = .ok (.bipush 24, 2) := by decide +kernel
theorem dX9_feed_89 : decode cX9_feed 89 = .ok (.bipush 8, 2) := by decide +kernel
theorem dX9_feed_91 : decode cX9_feed 91 = .ok (.iload 6, 2) := by decide +kernel
theorem dX9_feed_93 : decode cX9_feed 93 = .ok (.iconst 4, 1) := by decide +kernel
theorem dX9_feed_94 : decode cX9_feed 94 = .ok (.irem, 1) := by decide +kernel
theorem dX9_feed_95 : decode cX9_feed 95 = .ok (.imul, 1) := by decide +kernel
theorem dX9_feed_96 : decode cX9_feed 96 = .ok (.isub, 1) := by decide +kernel
theorem dX9_feed_97 : decode cX9_feed 97 = .ok (.ishr, 1) := by decide +kernel
theorem dX9_feed_98 : decode cX9_feed 98 = .ok (.i2b, 1) := by decide +kernel
theorem dX9_feed_99 : decode cX9_feed 99 = .ok (.bastore, 1) := by decide +kernel
theorem dX9_feed_100 : decode cX9_feed 100 = .ok (.iinc 6 1, 3) := by decide +kernel
theorem dX9_feed_103 : decode cX9_feed 103 = .ok (.goto (-43), 3) := by decide +kernel
theorem dX9_feed_106 : decode cX9_feed 106 = .ok (.aload_n 0, 1) := by decide +kernel
theorem dX9_feed_107 : decode cX9_feed 107 = .ok (.dup, 1) := by decide +kernel
theorem dX9_feed_108 : decode cX9_feed 108 = .ok (.getfield 96, 3) := by decide +kernel
theorem dX9_feed_111 : decode cX9_feed 111 = .ok (.bipush 20, 2) := by decide +kernel
theorem dX9_feed_113 : decode cX9_feed 113 = .ok (.iadd, 1) := by decide +kernel
theorem dX9_feed_114 : decode cX9_feed 114 = .ok (.putfield 96, 3) := by decide +kernel
theorem dX9_feed_117 : decode cX9_feed 117 = .ok (.aload_n 0, 1) := by decide +kernel
theorem dX9_feed_118 : decode cX9_feed 118 = .ok (.getfield 96, 3) := by decide +kernel
theorem dX9_feed_121 : decode cX9_feed 121 = .ok (.ireturn, 1) := by decide +kernel
theorem dX9_end_0 : decode cX9_end 0 = .ok (.aload_n 0, 1) := by decide +kernel
theorem dX9_end_1 : decode cX9_end 1 = .ok (.iconst 0, 1) := by decide +kernel
theorem dX9_end_2 : decode cX9_end 2 = .ok (.putfield 59, 3) := by decide +kernel
theorem dX9_end_5 : decode cX9_end 5 = .ok (.iload_n 1, 1) := by decide +kernel
theorem dX9_end_6 : decode cX9_end 6 = .ok (.ifCond .lt 11, 3) := by decide +kernel
theorem dX9_end_9 : decode cX9_end 9 = .ok (.iload_n 1, 1) := by decide +kernel
theorem dX9_end_10 : decode cX9_end 10 = .ok (.aload_n 0, 1) := by decide +kernel
theorem dX9_end_11 : decode cX9_end 11 = .ok (.getfield 96, 3) := by decide +kernel
theorem dX9_end_14 : decode cX9_end 14 = .ok (.if_icmp .le 5, 3) := by decide +kernel
theorem dX9_end_17 : decode cX9_end 17 = .ok (.iconst 0, 1) := by decide +kernel
theorem dX9_end_18 : decode cX9_end 18 = .ok (.ireturn, 1) := by decide +kernel
theorem dX9_end_19 : decode cX9_end 19 = .ok (.aload_n 0, 1) := by decide +kernel
theorem dX9_end_20 : decode cX9_end 20 = .ok (.iload_n 1, 1) := by decide +kernel
theorem dX9_end_21 : decode cX9_end 21 = .ok (.putfield 96, 3) := by decide +kernel
theorem dX9_end_24 : decode cX9_end 24 = .ok (.iconst 1, 1) := by decide +kernel
theorem dX9_end_25 : decode cX9_end 25 = .ok (.ireturn, 1) := by decide +kernel
theorem dX9_isAt_0 : decode cX9_isAt 0 = .ok (.aload_n 0, 1) := by decide +kernel
theorem dX9_isAt_1 : decode cX9_isAt 1 = .ok (.getfield 99, 3) := by decide +kernel
theorem dX9_isAt_4 : decode cX9_isAt 4 = .ok (.aload_n 0, 1) := by decide +kernel
theorem dX9_isAt_5 : decode cX9_isAt 5 = .ok (.getfield 102, 3) := by decide +kernel
theorem dX9_isAt_8 : decode cX9_isAt 8 = .ok (.if_icmp .ge 33, 3) := by decide +kernel
theorem dX9_isAt_11 : decode cX9_isAt 11 = .ok (.aload_n 0, 1) := by decide +kernel
theorem dX9_isAt_12 : decode cX9_isAt 12 = .ok (.getfield 45, 3) := by decide +kernel
theorem dX9_isAt_15 : decode cX9_isAt 15 = .ok (.aload_n 0, 1) := by decide +kernel
theorem dX9_isAt_16 : decode cX9_isAt 16 = .ok (.getfield 99, 3) := by decide +kernel
theorem dX9_isAt_19 : decode cX9_isAt 19 = .ok (.baload, 1) := by decide +kernel
theorem dX9_isAt_20 : decode cX9_isAt 20 = .ok (.iload_n 1, 1) := by decide +kernel
theorem dX9_isAt_21 : decode cX9_isAt 21 = .ok (.if_icmp .lt 20, 3) := by decide +kernel
theorem dX9_isAt_24 : decode cX9_isAt 24 = .ok (.aload_n 0, 1) := by decide +kernel
theorem dX9_isAt_25 : decode cX9_isAt 25 = .ok (.getfield 45, 3) := by decide +kernel
theorem dX9_isAt_28 : decode cX9_isAt 28 = .ok (.aload_n 0, 1) := by decide +kernel
theorem dX9_isAt_29 : decode cX9_isAt 29 = .ok (.getfield 99, 3) := by decide +kernel
theorem dX9_isAt_32 : decode cX9_isAt 32 = .ok (.baload, 1) := by decide +kernel
theorem dX9_isAt_33 : decode cX9_isAt 33 = .ok (.iload_n 2, 1) := by decide +kernel
theorem dX9_isAt_34 : decode cX9_isAt 34 = .ok (.if_icmp .gt 7, 3) := by decide +kernel
theorem dX9_isAt_37 : decode cX9_isAt 37 = .ok (.iconst 1, 1) := by decide +kernel
theorem dX9_isAt_38 : decode cX9_isAt 38 = .ok (.goto 4, 3) := by decide +kernel
theorem dX9_isAt_41 : decode cX9_isAt 41 = .ok (.iconst 0, 1) := by decide +kernel
theorem dX9_isAt_42 : decode cX9_isAt 42 = .ok (.ireturn, 1) := by decide +kernel
theorem dX9_blanks_0 : decode cX9_blanks 0 = .ok (.aload_n 0, 1) := by decide +kernel
theorem dX9_blanks_1 : decode cX9_blanks 1 = .ok (.bipush 32, 2) := by decide +kernel
theorem dX9_blanks_3 : decode cX9_blanks 3 = .ok (.bipush 32, 2) := by decide +kernel
theorem dX9_blanks_5 : decode cX9_blanks 5 = .ok (.invokevirtual 105, 3) := by decide +kernel
theorem dX9_blanks_8 : decode cX9_blanks 8 = .ok (.ifCond .eq 16, 3) := by decide +kernel
theorem dX9_blanks_11 : decode cX9_blanks 11 = .ok (.aload_n 0, 1) := by decide +kernel
theorem dX9_blanks_12 : decode cX9_blanks 12 = .ok (.dup, 1) := by decide +kernel
theorem dX9_blanks_13 : decode cX9_blanks 13 = .ok (.getfield 99, 3) := by decide +kernel
theorem dX9_blanks_16 : decode cX9_blanks 16 = .ok (.iconst 1, 1) := by decide +kernel
theorem dX9_blanks_17 : decode cX9_blanks 17 = .ok (.iadd, 1) := by decide +kernel
theorem dX9_blanks_18 : decode cX9_blanks 18 = .ok (.putfield 99, 3) := by decide +kernel
theorem dX9_blanks_21 : decode cX9_blanks 21 = .ok (.goto (-21), 3) := by decide +kernel
theorem dX9_blanks_24 : decode cX9_blanks 24 = .ok (.aload_n 0, 1) := by decide +kernel
theorem dX9_blanks_25 : decode cX9_blanks 25 = .ok (.aload_n 0, 1) := by decide +kernel
theorem dX9_blanks_26 : decode cX9_blanks 26 = .ok (.getfield 99, 3) := by decide +kernel
theorem dX9_blanks_29 : decode cX9_blanks 29 = .ok (.putfield 109, 3) := by decide +kernel
theorem dX9_blanks_32 : decode cX9_blanks 32 = .ok (.return_, 1) := by decide +kernel
theorem dX9_word_0 : decode cX9_word 0 = .ok (.aload_n 0, 1) := by decide +kernel
theorem dX9_word_1 : decode cX9_word 1 = .ok (.invokevirtual 112, 3) := by decide +kernel
theorem dX9_word_4 : decode cX9_word 4 = .ok (.aload_n 0, 1) := by decide +kernel
theorem dX9_word_5 : decode cX9_word 5 = .ok (.bipush 97, 2) := by decide +kernel
theorem dX9_word_7 : decode cX9_word 7 = .ok (.bipush 122, 2) := by decide +kernel
theorem dX9_word_9 : decode cX9_word 9 = .ok (.invokevirtual 105, 3) := by decide +kernel
theorem dX9_word_12 : decode cX9_word 12 = .ok (.ifCond .eq 16, 3) := by decide +kernel
theorem dX9_word_15 : decode cX9_word 15 = .ok (.aload_n 0, 1) := by decide +kernel
theorem dX9_word_16 : decode cX9_word 16 = .ok (.dup, 1) := by decide +kernel
theorem dX9_word_17 : decode cX9_word 17 = .ok (.getfield 99, 3) := by decide +kernel
theorem dX9_word_20 : decode cX9_word 20 = .ok (.iconst 1, 1) := by decide +kernel
theorem dX9_word_21 : decode cX9_word 21 = .ok (.iadd, 1) := by decide +kernel
theorem dX9_word_22 : decode cX9_word 22 = .ok (.putfield 99, 3) := by decide +kernel
theorem dX9_word_25 : decode cX9_word 25 = .ok (.goto (-21), 3) := by decide +kernel
theorem dX9_word_28 : decode cX9_word 28 = .ok (.return_, 1) := by decide +kernel
theorem dX9_isWord_0 : decode cX9_isWord 0 = .ok (.aload_n 0, 1) := by decide +kernel
theorem dX9_isWord_1 : decode cX9_isWord 1 = .ok (.getfield 99, 3) := by decide +kernel
theorem dX9_isWord_4 : decode cX9_isWord 4 = .ok (.aload_n 0, 1) := by decide +kernel
theorem dX9_isWord_5 : decode cX9_isWord 5 = .ok (.getfield 109, 3) := by decide +kernel
theorem dX9_isWord_8 : decode cX9_isWord 8 = .ok (.isub, 1) := by decide +kernel
theorem dX9_isWord_9 : decode cX9_isWord 9 = .ok (.aload_n 1, 1) := by decide +kernel
theorem dX9_isWord_10 : decode cX9_isWord 10 = .ok (.invokevirtual 115, 3) := by decide +kernel
theorem dX9_isWord_13 : decode cX9_isWord 13 = .ok (.if_icmp .ne 7, 3) := by decide +kernel
theorem dX9_isWord_16 : decode cX9_isWord 16 = .ok (.iconst 1, 1) := by decide +kernel
theorem dX9_isWord_17 : decode cX9_isWord 17 = .ok (.goto 4, 3) := by decide +kernel
theorem dX9_isWord_20 : decode cX9_isWord 20 = .ok (.iconst 0, 1) := by decide +kernel
theorem dX9_isWord_21 : decode cX9_isWord 21 = .ok (.istore_n 2, 1) := by decide +kernel
theorem dX9_isWord_22 : decode cX9_isWord 22 = .ok (.iconst 0, 1) := by decide +kernel
theorem dX9_isWord_23 : decode cX9_isWord 23 = .ok (.istore_n 3, 1) := by decide +kernel
theorem dX9_isWord_24 : decode cX9_isWord 24 = .ok (.iload_n 2, 1) := by decide +kernel
theorem dX9_isWord_25 : decode cX9_isWord 25 = .ok (.ifCond .eq 42, 3) := by decide +kernel
theorem dX9_isWord_28 : decode cX9_isWord 28 = .ok (.iload_n 3, 1) := by decide +kernel
theorem dX9_isWord_29 : decode cX9_isWord 29 = .ok (.aload_n 1, 1) := by decide +kernel
theorem dX9_isWord_30 : decode cX9_isWord 30 = .ok (.invokevirtual 115, 3) := by decide +kernel
theorem dX9_isWord_33 : decode cX9_isWord 33 = .ok (.if_icmp .ge 34, 3) := by decide +kernel
theorem dX9_isWord_36 : decode cX9_isWord 36 = .ok (.aload_n 0, 1) := by decide +kernel
theorem dX9_isWord_37 : decode cX9_isWord 37 = .ok (.getfield 45, 3) := by decide +kernel
theorem dX9_isWord_40 : decode cX9_isWord 40 = .ok (.aload_n 0, 1) := by decide +kernel
theorem dX9_isWord_41 : decode cX9_isWord 41 = .ok (.getfield 109, 3) := by decide +kernel
theorem dX9_isWord_44 : decode cX9_isWord 44 = .ok (.iload_n 3, 1) := by decide +kernel
theorem dX9_isWord_45 : decode cX9_isWord 45 = .ok (.iadd, 1) := by decide +kernel
theorem dX9_isWord_46 : decode cX9_isWord 46 = .ok (.baload, 1) := by decide +kernel
theorem dX9_isWord_47 : decode cX9_isWord 47 = .ok (.aload_n 1, 1) := by decide +kernel
theorem dX9_isWord_48 : decode cX9_isWord 48 = .ok (.iload_n 3, 1) := by decide +kernel
theorem dX9_isWord_49 : decode cX9_isWord 49 = .ok (.invokevirtual 120, 3) := by decide +kernel
theorem dX9_isWord_52 : decode cX9_isWord 52 = .ok (.if_icmp .ne 7, 3) := by decide +kernel
theorem dX9_isWord_55 : decode cX9_isWord 55 = .ok (.iconst 1, 1) := by decide +kernel
theorem dX9_isWord_56 : decode cX9_isWord 56 = .ok (.goto 4, 3) := by decide +kernel
theorem dX9_isWord_59 : decode cX9_isWord 59 = .ok (.iconst 0, 1) := by decide +kernel
theorem dX9_isWord_60 : decode cX9_isWord 60 = .ok (.istore_n 2, 1) := by decide +kernel
theorem dX9_isWord_61 : decode cX9_isWord 61 = .ok (.iinc 3 1, 3) := by decide +kernel
theorem dX9_isWord_64 : decode cX9_isWord 64 = .ok (.goto (-40), 3) := by decide +kernel
theorem dX9_isWord_67 : decode cX9_isWord 67 = .ok (.iload_n 2, 1) := by decide +kernel
theorem dX9_isWord_68 : decode cX9_isWord 68 = .ok (.ireturn, 1) := by decide +kernel
theorem dX9_passes_0 : decode cX9_passes 0 = .ok (.aload_n 0, 1) := by decide +kernel
theorem dX9_passes_1 : decode cX9_passes 1 = .ok (.invokevirtual 124, 3) := by decide +kernel
theorem dX9_passes_4 : decode cX9_passes 4 = .ok (.aload_n 0, 1) := by decide +kernel
theorem dX9_passes_5 : decode cX9_passes 5 = .ok (.aload_n 1, 1) := by decide +kernel
theorem dX9_passes_6 : decode cX9_passes 6 = .ok (.invokevirtual 127, 3) := by decide +kernel
theorem dX9_passes_9 : decode cX9_passes 9 = .ok (.ifCond .eq 5, 3) := by decide +kernel
theorem dX9_passes_12 : decode cX9_passes 12 = .ok (.iconst 1, 1) := by decide +kernel
theorem dX9_passes_13 : decode cX9_passes 13 = .ok (.ireturn, 1) := by decide +kernel
theorem dX9_passes_14 : decode cX9_passes 14 = .ok (.aload_n 0, 1) := by decide +kernel
theorem dX9_passes_15 : decode cX9_passes 15 = .ok (.aload_n 0, 1) := by decide +kernel
theorem dX9_passes_16 : decode cX9_passes 16 = .ok (.getfield 109, 3) := by decide +kernel
theorem dX9_passes_19 : decode cX9_passes 19 = .ok (.putfield 99, 3) := by decide +kernel
theorem dX9_passes_22 : decode cX9_passes 22 = .ok (.iconst 0, 1) := by decide +kernel
theorem dX9_passes_23 : decode cX9_passes 23 = .ok (.ireturn, 1) := by decide +kernel
theorem dX9_sign_0 : decode cX9_sign 0 = .ok (.aload_n 0, 1) := by decide +kernel
theorem dX9_sign_1 : decode cX9_sign 1 = .ok (.invokevirtual 112, 3) := by decide +kernel
theorem dX9_sign_4 : decode cX9_sign 4 = .ok (.aload_n 0, 1) := by decide +kernel
theorem dX9_sign_5 : decode cX9_sign 5 = .ok (.iload_n 1, 1) := by decide +kernel
theorem dX9_sign_6 : decode cX9_sign 6 = .ok (.iload_n 1, 1) := by decide +kernel
theorem dX9_sign_7 : decode cX9_sign 7 = .ok (.invokevirtual 105, 3) := by decide +kernel
theorem dX9_sign_10 : decode cX9_sign 10 = .ok (.ifCond .ne 5, 3) := by decide +kernel
theorem dX9_sign_13 : decode cX9_sign 13 = .ok (.iconst 0, 1) := by decide +kernel
theorem dX9_sign_14 : decode cX9_sign 14 = .ok (.ireturn, 1) := by decide +kernel
theorem dX9_sign_15 : decode cX9_sign 15 = .ok (.aload_n 0, 1) := by decide +kernel
theorem dX9_sign_16 : decode cX9_sign 16 = .ok (.dup, 1) := by decide +kernel
theorem dX9_sign_17 : decode cX9_sign 17 = .ok (.getfield 99, 3) := by decide +kernel
theorem dX9_sign_20 : decode cX9_sign 20 = .ok (.iconst 1, 1) := by decide +kernel
theorem dX9_sign_21 : decode cX9_sign 21 = .ok (.iadd, 1) := by decide +kernel
theorem dX9_sign_22 : decode cX9_sign 22 = .ok (.putfield 99, 3) := by decide +kernel
theorem dX9_sign_25 : decode cX9_sign 25 = .ok (.iconst 1, 1) := by decide +kernel
theorem dX9_sign_26 : decode cX9_sign 26 = .ok (.ireturn, 1) := by decide +kernel
theorem dX9_number_0 : decode cX9_number 0 = .ok (.aload_n 0, 1) := by decide +kernel
theorem dX9_number_1 : decode cX9_number 1 = .ok (.invokevirtual 112, 3) := by decide +kernel
theorem dX9_number_4 : decode cX9_number 4 = .ok (.iconst 0, 1) := by decide +kernel
theorem dX9_number_5 : decode cX9_number 5 = .ok (.istore_n 3, 1) := by decide +kernel
theorem dX9_number_6 : decode cX9_number 6 = .ok (.aload_n 0, 1) := by decide +kernel
theorem dX9_number_7 : decode cX9_number 7 = .ok (.bipush 48, 2) := by decide +kernel
theorem dX9_number_9 : decode cX9_number 9 = .ok (.bipush 57, 2) := by decide +kernel
theorem dX9_number_11 : decode cX9_number 11 = .ok (.invokevirtual 105, 3) := by decide +kernel
theorem dX9_number_14 : decode cX9_number 14 = .ok (.ifCond .eq 51, 3) := by decide +kernel
theorem dX9_number_17 : decode cX9_number 17 = .ok (.aload_n 0, 1) := by decide +kernel
theorem dX9_number_18 : decode cX9_number 18 = .ok (.getfield 99, 3) := by decide +kernel
theorem dX9_number_21 : decode cX9_number 21 = .ok (.aload_n 0, 1) := by decide +kernel
theorem dX9_number_22 : decode cX9_number 22 = .ok (.getfield 109, 3) := by decide +kernel
theorem dX9_number_25 : decode cX9_number 25 = .ok (.isub, 1) := by decide +kernel
theorem dX9_number_26 : decode cX9_number 26 = .ok (.iconst 3, 1) := by decide +kernel
theorem dX9_number_27 : decode cX9_number 27 = .ok (.if_icmp .ge 23, 3) := by decide +kernel
theorem dX9_number_30 : decode cX9_number 30 = .ok (.bipush 10, 2) := by decide +kernel
theorem dX9_number_32 : decode cX9_number 32 = .ok (.iload_n 3, 1) := by decide +kernel
theorem dX9_number_33 : decode cX9_number 33 = .ok (.imul, 1) := by decide +kernel
theorem dX9_number_34 : decode cX9_number 34 = .ok (.aload_n 0, 1) := by decide +kernel
theorem dX9_number_35 : decode cX9_number 35 = .ok (.getfield 45, 3) := by decide +kernel
theorem dX9_number_38 : decode cX9_number 38 = .ok (.aload_n 0, 1) := by decide +kernel
theorem dX9_number_39 : decode cX9_number 39 = .ok (.getfield 99, 3) := by decide +kernel
theorem dX9_number_42 : decode cX9_number 42 = .ok (.baload, 1) := by decide +kernel
theorem dX9_number_43 : decode cX9_number 43 = .ok (.iadd, 1) := by decide +kernel
theorem dX9_number_44 : decode cX9_number 44 = .ok (.bipush 48, 2) := by decide +kernel
theorem dX9_number_46 : decode cX9_number 46 = .ok (.isub, 1) := by decide +kernel
theorem dX9_number_47 : decode cX9_number 47 = .ok (.goto 4, 3) := by decide +kernel
theorem dX9_number_50 : decode cX9_number 50 = .ok (.iload_n 3, 1) := by decide +kernel
theorem dX9_number_51 : decode cX9_number 51 = .ok (.istore_n 3, 1) := by decide +kernel
theorem dX9_number_52 : decode cX9_number 52 = .ok (.aload_n 0, 1) := by decide +kernel
theorem dX9_number_53 : decode cX9_number 53 = .ok (.dup, 1) := by decide +kernel
theorem dX9_number_54 : decode cX9_number 54 = .ok (.getfield 99, 3) := by decide +kernel
theorem dX9_number_57 : decode cX9_number 57 = .ok (.iconst 1, 1) := by decide +kernel
theorem dX9_number_58 : decode cX9_number 58 = .ok (.iadd, 1) := by decide +kernel
theorem dX9_number_59 : decode cX9_number 59 = .ok (.putfield 99, 3) := by decide +kernel
theorem dX9_number_62 : decode cX9_number 62 = .ok (.goto (-56), 3) := by decide +kernel
theorem dX9_number_65 : decode cX9_number 65 = .ok (.aload_n 0, 1) := by decide +kernel
theorem dX9_number_66 : decode cX9_number 66 = .ok (.getfield 99, 3) := by decide +kernel
theorem dX9_number_69 : decode cX9_number 69 = .ok (.aload_n 0, 1) := by decide +kernel
theorem dX9_number_70 : decode cX9_number 70 = .ok (.getfield 109, 3) := by decide +kernel
theorem dX9_number_73 : decode cX9_number 73 = .ok (.if_icmp .eq 26, 3) := by decide +kernel
theorem dX9_number_76 : decode cX9_number 76 = .ok (.aload_n 0, 1) := by decide +kernel
theorem dX9_number_77 : decode cX9_number 77 = .ok (.getfield 99, 3) := by decide +kernel
theorem dX9_number_80 : decode cX9_number 80 = .ok (.aload_n 0, 1) := by decide +kernel
theorem dX9_number_81 : decode cX9_number 81 = .ok (.getfield 109, 3) := by decide +kernel
theorem dX9_number_84 : decode cX9_number 84 = .ok (.isub, 1) := by decide +kernel
theorem dX9_number_85 : decode cX9_number 85 = .ok (.iconst 3, 1) := by decide +kernel
theorem dX9_number_86 : decode cX9_number 86 = .ok (.if_icmp .gt 13, 3) := by decide +kernel
theorem dX9_number_89 : decode cX9_number 89 = .ok (.iload_n 3, 1) := by decide +kernel
theorem dX9_number_90 : decode cX9_number 90 = .ok (.iload_n 1, 1) := by decide +kernel
theorem dX9_number_91 : decode cX9_number 91 = .ok (.if_icmp .lt 8, 3) := by decide +kernel
theorem dX9_number_94 : decode cX9_number 94 = .ok (.iload_n 3, 1) := by decide +kernel
theorem dX9_number_95 : decode cX9_number 95 = .ok (.iload_n 2, 1) := by decide +kernel
theorem dX9_number_96 : decode cX9_number 96 = .ok (.if_icmp .le 7, 3) := by decide +kernel
theorem dX9_number_99 : decode cX9_number 99 = .ok (.iconst (-1), 1) := by decide +kernel
theorem dX9_number_100 : decode cX9_number 100 = .ok (.goto 4, 3) := by decide +kernel
theorem dX9_number_103 : decode cX9_number 103 = .ok (.iload_n 3, 1) := by decide +kernel
theorem dX9_number_104 : decode cX9_number 104 = .ok (.ireturn, 1) := by decide +kernel
theorem dX9_readItem_0 : decode cX9_readItem 0 = .ok (.aload_n 0, 1) := by decide +kernel
theorem dX9_readItem_1 : decode cX9_readItem 1 = .ok (.bipush 40, 2) := by decide +kernel
theorem dX9_readItem_3 : decode cX9_readItem 3 = .ok (.invokevirtual 131, 3) := by decide +kernel
theorem dX9_readItem_6 : decode cX9_readItem 6 = .ok (.ifCond .eq 58, 3) := by decide +kernel
theorem dX9_readItem_9 : decode cX9_readItem 9 = .ok (.aload_n 0, 1) := by decide +kernel
theorem dX9_readItem_10 : decode cX9_readItem 10 = .ok (.getfield 135, 3) := by decide +kernel
theorem dX9_readItem_13 : decode cX9_readItem 13 = .ok (.bipush 12, 2) := by decide +kernel
theorem dX9_readItem_15 : decode cX9_readItem 15 = .ok (.if_icmp .ne 5, 3) := by decide +kernel
theorem dX9_readItem_18 : decode cX9_readItem 18 = .ok (.iconst (-1), 1) := by decide +kernel
theorem dX9_readItem_19 : decode cX9_readItem 19 = .ok (.ireturn, 1) := by decide +kernel
theorem dX9_readItem_20 : decode cX9_readItem 20 = .ok (.aload_n 0, 1) := by decide +kernel
theorem dX9_readItem_21 : decode cX9_readItem 21 = .ok (.dup, 1) := by decide +kernel
theorem dX9_readItem_22 : decode cX9_readItem 22 = .ok (.getfield 135, 3) := by decide +kernel
theorem dX9_readItem_25 : decode cX9_readItem 25 = .ok (.iconst 1, 1) := by decide +kernel
theorem dX9_readItem_26 : decode cX9_readItem 26 = .ok (.iadd, 1) := by decide +kernel
theorem dX9_readItem_27 : decode cX9_readItem 27 = .ok (.putfield 135, 3) := by decide +kernel
theorem dX9_readItem_30 : decode cX9_readItem 30 = .ok (.aload_n 0, 1) := by decide +kernel
theorem dX9_readItem_31 : decode cX9_readItem 31 = .ok (.invokevirtual 138, 3) := by decide +kernel
theorem dX9_readItem_34 : decode cX9_readItem 34 = .ok (.istore_n 1, 1) := by decide +kernel
theorem dX9_readItem_35 : decode cX9_readItem 35 = .ok (.aload_n 0, 1) := by decide +kernel
theorem dX9_readItem_36 : decode cX9_readItem 36 = .ok (.dup, 1) := by decide +kernel
theorem dX9_readItem_37 : decode cX9_readItem 37 = .ok (.getfield 135, 3) := by decide +kernel
theorem dX9_readItem_40 : decode cX9_readItem 40 = .ok (.iconst 1, 1) := by decide +kernel
theorem dX9_readItem_41 : decode cX9_readItem 41 = .ok (.isub, 1) := by decide +kernel
theorem dX9_readItem_42 : decode cX9_readItem 42 = .ok (.putfield 135, 3) := by decide +kernel
theorem dX9_readItem_45 : decode cX9_readItem 45 = .ok (.iload_n 1, 1) := by decide +kernel
theorem dX9_readItem_46 : decode cX9_readItem 46 = .ok (.ifCond .lt 16, 3) := by decide +kernel
theorem dX9_readItem_49 : decode cX9_readItem 49 = .ok (.aload_n 0, 1) := by decide +kernel
theorem dX9_readItem_50 : decode cX9_readItem 50 = .ok (.bipush 41, 2) := by decide +kernel
theorem dX9_readItem_52 : decode cX9_readItem 52 = .ok (.invokevirtual 131, 3) := by decide +kernel
theorem dX9_readItem_55 : decode cX9_readItem 55 = .ok (.ifCond .eq 7, 3) := by decide +kernel
theorem dX9_readItem_58 : decode cX9_readItem 58 = .ok (.iload_n 1, 1) := by decide +kernel
theorem dX9_readItem_59 : decode cX9_readItem 59 = .ok (.goto 4, 3) := by decide +kernel
theorem dX9_readItem_62 : decode cX9_readItem 62 = .ok (.iconst (-1), 1) := by decide +kernel
theorem dX9_readItem_63 : decode cX9_readItem 63 = .ok (.ireturn, 1) := by decide +kernel
theorem dX9_readItem_64 : decode cX9_readItem 64 = .ok (.aload_n 0, 1) := by decide +kernel
theorem dX9_readItem_65 : decode cX9_readItem 65 = .ok (.ldc 141, 2) := by decide +kernel
theorem dX9_readItem_67 : decode cX9_readItem 67 = .ok (.invokevirtual 143, 3) := by decide +kernel
theorem dX9_readItem_70 : decode cX9_readItem 70 = .ok (.ifCond .eq 60, 3) := by decide +kernel
theorem dX9_readItem_73 : decode cX9_readItem 73 = .ok (.aload_n 0, 1) := by decide +kernel
theorem dX9_readItem_74 : decode cX9_readItem 74 = .ok (.getfield 135, 3) := by decide +kernel
theorem dX9_readItem_77 : decode cX9_readItem 77 = .ok (.bipush 12, 2) := by decide +kernel
theorem dX9_readItem_79 : decode cX9_readItem 79 = .ok (.if_icmp .ne 5, 3) := by decide +kernel
theorem dX9_readItem_82 : decode cX9_readItem 82 = .ok (.iconst (-1), 1) := by decide +kernel
theorem dX9_readItem_83 : decode cX9_readItem 83 = .ok (.ireturn, 1) := by decide +kernel
theorem dX9_readItem_84 : decode cX9_readItem 84 = .ok (.aload_n 0, 1) := by decide +kernel
theorem dX9_readItem_85 : decode cX9_readItem 85 = .ok (.dup, 1) := by decide +kernel
theorem dX9_readItem_86 : decode cX9_readItem 86 = .ok (.getfield 135, 3) := by decide +kernel
theorem dX9_readItem_89 : decode cX9_readItem 89 = .ok (.iconst 1, 1) := by decide +kernel
theorem dX9_readItem_90 : decode cX9_readItem 90 = .ok (.iadd, 1) := by decide +kernel
theorem dX9_readItem_91 : decode cX9_readItem 91 = .ok (.putfield 135, 3) := by decide +kernel
theorem dX9_readItem_94 : decode cX9_readItem 94 = .ok (.aload_n 0, 1) := by decide +kernel
theorem dX9_readItem_95 : decode cX9_readItem 95 = .ok (.invokevirtual 146, 3) := by decide +kernel
theorem dX9_readItem_98 : decode cX9_readItem 98 = .ok (.istore_n 1, 1) := by decide +kernel
theorem dX9_readItem_99 : decode cX9_readItem 99 = .ok (.aload_n 0, 1) := by decide +kernel
theorem dX9_readItem_100 : decode cX9_readItem 100 = .ok (.dup, 1) := by decide +kernel
theorem dX9_readItem_101 : decode cX9_readItem 101 = .ok (.getfield 135, 3) := by decide +kernel
theorem dX9_readItem_104 : decode cX9_readItem 104 = .ok (.iconst 1, 1) := by decide +kernel
theorem dX9_readItem_105 : decode cX9_readItem 105 = .ok (.isub, 1) := by decide +kernel
theorem dX9_readItem_106 : decode cX9_readItem 106 = .ok (.putfield 135, 3) := by decide +kernel
theorem dX9_readItem_109 : decode cX9_readItem 109 = .ok (.iload_n 1, 1) := by decide +kernel
theorem dX9_readItem_110 : decode cX9_readItem 110 = .ok (.ifCond .ge 5, 3) := by decide +kernel
theorem dX9_readItem_113 : decode cX9_readItem 113 = .ok (.iconst (-1), 1) := by decide +kernel
theorem dX9_readItem_114 : decode cX9_readItem 114 = .ok (.ireturn, 1) := by decide +kernel
theorem dX9_readItem_115 : decode cX9_readItem 115 = .ok (.aload_n 0, 1) := by decide +kernel
theorem dX9_readItem_116 : decode cX9_readItem 116 = .ok (.bipush 10, 2) := by decide +kernel
theorem dX9_readItem_118 : decode cX9_readItem 118 = .ok (.invokevirtual 68, 3) := by decide +kernel
theorem dX9_readItem_121 : decode cX9_readItem 121 = .ok (.istore_n 2, 1) := by decide +kernel
theorem dX9_readItem_122 : decode cX9_readItem 122 = .ok (.aload_n 0, 1) := by decide +kernel
theorem dX9_readItem_123 : decode cX9_readItem 123 = .ok (.iload_n 2, 1) := by decide +kernel
theorem dX9_readItem_124 : decode cX9_readItem 124 = .ok (.iload_n 1, 1) := by decide +kernel
theorem dX9_readItem_125 : decode cX9_readItem 125 = .ok (.invokevirtual 75, 3) := by decide +kernel
theorem dX9_readItem_128 : decode cX9_readItem 128 = .ok (.iload_n 2, 1) := by decide +kernel
theorem dX9_readItem_129 : decode cX9_readItem 129 = .ok (.ireturn, 1) := by decide +kernel
theorem dX9_readItem_130 : decode cX9_readItem 130 = .ok (.aload_n 0, 1) := by decide +kernel
theorem dX9_readItem_131 : decode cX9_readItem 131 = .ok (.ldc 149, 2) := by decide +kernel
theorem dX9_readItem_133 : decode cX9_readItem 133 = .ok (.invokevirtual 143, 3) := by decide +kernel
theorem dX9_readItem_136 : decode cX9_readItem 136 = .ok (.ifCond .ne 5, 3) := by decide +kernel
theorem dX9_readItem_139 : decode cX9_readItem 139 = .ok (.iconst (-1), 1) := by decide +kernel
theorem dX9_readItem_140 : decode cX9_readItem 140 = .ok (.ireturn, 1) := by decide +kernel
theorem dX9_readItem_141 : decode cX9_readItem 141 = .ok (.aload_n 0, 1) := by decide +kernel
theorem dX9_readItem_142 : decode cX9_readItem 142 = .ok (.iconst 0, 1) := by decide +kernel
theorem dX9_readItem_143 : decode cX9_readItem 143 = .ok (.iconst 5, 1) := by decide +kernel
theorem dX9_readItem_144 : decode cX9_readItem 144 = .ok (.invokevirtual 151, 3) := by decide +kernel
theorem dX9_readItem_147 : decode cX9_readItem 147 = .ok (.istore_n 1, 1) := by decide +kernel
theorem dX9_readItem_148 : decode cX9_readItem 148 = .ok (.iload_n 1, 1) := by decide +kernel
theorem dX9_readItem_149 : decode cX9_readItem 149 = .ok (.ifCond .ge 7, 3) := by decide +kernel
theorem dX9_readItem_152 : decode cX9_readItem 152 = .ok (.iconst (-1), 1) := by decide +kernel
theorem dX9_readItem_153 : decode cX9_readItem 153 = .ok (.goto 8, 3) := by decide +kernel
theorem dX9_readItem_156 : decode cX9_readItem 156 = .ok (.aload_n 0, 1) := by decide +kernel
theorem dX9_readItem_157 : decode cX9_readItem 157 = .ok (.iload_n 1, 1) := by decide +kernel
theorem dX9_readItem_158 : decode cX9_readItem 158 = .ok (.invokevirtual 68, 3) := by decide +kernel
theorem dX9_readItem_161 : decode cX9_readItem 161 = .ok (.ireturn, 1) := by decide +kernel
theorem dX9_readAllOf_0 : decode cX9_readAllOf 0 = .ok (.aload_n 0, 1) := by decide +kernel
theorem dX9_readAllOf_1 : decode cX9_readAllOf 1 = .ok (.invokevirtual 146, 3) := by decide +kernel
theorem dX9_readAllOf_4 : decode cX9_readAllOf 4 = .ok (.istore_n 1, 1) := by decide +kernel
theorem dX9_readAllOf_5 : decode cX9_readAllOf 5 = .ok (.iconst (-1), 1) := by decide +kernel
theorem dX9_readAllOf_6 : decode cX9_readAllOf 6 = .ok (.istore_n 2, 1) := by decide +kernel
theorem dX9_readAllOf_7 : decode cX9_readAllOf 7 = .ok (.iload_n 1, 1) := by decide +kernel
theorem dX9_readAllOf_8 : decode cX9_readAllOf 8 = .ok (.ifCond .lt 48, 3) := by decide +kernel
theorem dX9_readAllOf_11 : decode cX9_readAllOf 11 = .ok (.aload_n 0, 1) := by decide +kernel
theorem dX9_readAllOf_12 : decode cX9_readAllOf 12 = .ok (.ldc 154, 2) := by decide +kernel
theorem dX9_readAllOf_14 : decode cX9_readAllOf 14 = .ok (.invokevirtual 143, 3) := by decide +kernel
theorem dX9_readAllOf_17 : decode cX9_readAllOf 17 = .ok (.ifCond .eq 39, 3) := by decide +kernel
theorem dX9_readAllOf_20 : decode cX9_readAllOf 20 = .ok (.iload_n 2, 1) := by decide +kernel
theorem dX9_readAllOf_21 : decode cX9_readAllOf 21 = .ok (.ifCond .ge 17, 3) := by decide +kernel
theorem dX9_readAllOf_24 : decode cX9_readAllOf 24 = .ok (.aload_n 0, 1) := by decide +kernel
theorem dX9_readAllOf_25 : decode cX9_readAllOf 25 = .ok (.sipush 1000, 3) := by decide +kernel
theorem dX9_readAllOf_28 : decode cX9_readAllOf 28 = .ok (.invokevirtual 68, 3) := by decide +kernel
theorem dX9_readAllOf_31 : decode cX9_readAllOf 31 = .ok (.istore_n 2, 1) := by decide +kernel
theorem dX9_readAllOf_32 : decode cX9_readAllOf 32 = .ok (.aload_n 0, 1) := by decide +kernel
theorem dX9_readAllOf_33 : decode cX9_readAllOf 33 = .ok (.iload_n 2, 1) := by decide +kernel
theorem dX9_readAllOf_34 : decode cX9_readAllOf 34 = .ok (.iload_n 1, 1) := by decide +kernel
theorem dX9_readAllOf_35 : decode cX9_readAllOf 35 = .ok (.invokevirtual 75, 3) := by decide +kernel
theorem dX9_readAllOf_38 : decode cX9_readAllOf 38 = .ok (.aload_n 0, 1) := by decide +kernel
theorem dX9_readAllOf_39 : decode cX9_readAllOf 39 = .ok (.invokevirtual 146, 3) := by decide +kernel
theorem dX9_readAllOf_42 : decode cX9_readAllOf 42 = .ok (.istore_n 1, 1) := by decide +kernel
theorem dX9_readAllOf_43 : decode cX9_readAllOf 43 = .ok (.iload_n 1, 1) := by decide +kernel
theorem dX9_readAllOf_44 : decode cX9_readAllOf 44 = .ok (.ifCond .lt (-37), 3) := by decide +kernel
theorem dX9_readAllOf_47 : decode cX9_readAllOf 47 = .ok (.aload_n 0, 1) := by decide +kernel
theorem dX9_readAllOf_48 : decode cX9_readAllOf 48 = .ok (.iload_n 2, 1) := by decide +kernel
theorem dX9_readAllOf_49 : decode cX9_readAllOf 49 = .ok (.iload_n 1, 1) := by decide +kernel
theorem dX9_readAllOf_50 : decode cX9_readAllOf 50 = .ok (.invokevirtual 75, 3) := by decide +kernel
theorem dX9_readAllOf_53 : decode cX9_readAllOf 53 = .ok (.goto (-46), 3) := by decide +kernel
theorem dX9_readAllOf_56 : decode cX9_readAllOf 56 = .ok (.iload_n 1, 1) := by decide +kernel
theorem dX9_readAllOf_57 : decode cX9_readAllOf 57 = .ok (.ifCond .ge 7, 3) := by decide +kernel
theorem dX9_readAllOf_60 : decode cX9_readAllOf 60 = .ok (.iconst (-1), 1) := by decide +kernel
theorem dX9_readAllOf_61 : decode cX9_readAllOf 61 = .ok (.goto 12, 3) := by decide +kernel
theorem dX9_readAllOf_64 : decode cX9_readAllOf 64 = .ok (.iload_n 2, 1) := by decide +kernel
theorem dX9_readAllOf_65 : decode cX9_readAllOf 65 = .ok (.ifCond .ge 7, 3) := by decide +kernel
theorem dX9_readAllOf_68 : decode cX9_readAllOf 68 = .ok (.iload_n 1, 1) := by decide +kernel
theorem dX9_readAllOf_69 : decode cX9_readAllOf 69 = .ok (.goto 4, 3) := by decide +kernel
theorem dX9_readAllOf_72 : decode cX9_readAllOf 72 = .ok (.iload_n 2, 1) := by decide +kernel
theorem dX9_readAllOf_73 : decode cX9_readAllOf 73 = .ok (.ireturn, 1) := by decide +kernel
theorem dX9_readCond_0 : decode cX9_readCond 0 = .ok (.aload_n 0, 1) := by decide +kernel
theorem dX9_readCond_1 : decode cX9_readCond 1 = .ok (.invokevirtual 156, 3) := by decide +kernel
theorem dX9_readCond_4 : decode cX9_readCond 4 = .ok (.istore_n 1, 1) := by decide +kernel
theorem dX9_readCond_5 : decode cX9_readCond 5 = .ok (.iconst (-1), 1) := by decide +kernel
theorem dX9_readCond_6 : decode cX9_readCond 6 = .ok (.istore_n 2, 1) := by decide +kernel
theorem dX9_readCond_7 : decode cX9_readCond 7 = .ok (.iload_n 1, 1) := by decide +kernel
theorem dX9_readCond_8 : decode cX9_readCond 8 = .ok (.ifCond .lt 48, 3) := by decide +kernel
theorem dX9_readCond_11 : decode cX9_readCond 11 = .ok (.aload_n 0, 1) := by decide +kernel
theorem dX9_readCond_12 : decode cX9_readCond 12 = .ok (.ldc 159, 2) := by decide +kernel
theorem dX9_readCond_14 : decode cX9_readCond 14 = .ok (.invokevirtual 143, 3) := by decide +kernel
theorem dX9_readCond_17 : decode cX9_readCond 17 = .ok (.ifCond .eq 39, 3) := by decide +kernel
theorem dX9_readCond_20 : decode cX9_readCond 20 = .ok (.iload_n 2, 1) := by decide +kernel
theorem dX9_readCond_21 : decode cX9_readCond 21 = .ok (.ifCond .ge 17, 3) := by decide +kernel
theorem dX9_readCond_24 : decode cX9_readCond 24 = .ok (.aload_n 0, 1) := by decide +kernel
theorem dX9_readCond_25 : decode cX9_readCond 25 = .ok (.sipush 2000, 3) := by decide +kernel
theorem dX9_readCond_28 : decode cX9_readCond 28 = .ok (.invokevirtual 68, 3) := by decide +kernel
theorem dX9_readCond_31 : decode cX9_readCond 31 = .ok (.istore_n 2, 1) := by decide +kernel
theorem dX9_readCond_32 : decode cX9_readCond 32 = .ok (.aload_n 0, 1) := by decide +kernel
theorem dX9_readCond_33 : decode cX9_readCond 33 = .ok (.iload_n 2, 1) := by decide +kernel
theorem dX9_readCond_34 : decode cX9_readCond 34 = .ok (.iload_n 1, 1) := by decide +kernel
theorem dX9_readCond_35 : decode cX9_readCond 35 = .ok (.invokevirtual 75, 3) := by decide +kernel
theorem dX9_readCond_38 : decode cX9_readCond 38 = .ok (.aload_n 0, 1) := by decide +kernel
theorem dX9_readCond_39 : decode cX9_readCond 39 = .ok (.invokevirtual 156, 3) := by decide +kernel
theorem dX9_readCond_42 : decode cX9_readCond 42 = .ok (.istore_n 1, 1) := by decide +kernel
theorem dX9_readCond_43 : decode cX9_readCond 43 = .ok (.iload_n 1, 1) := by decide +kernel
theorem dX9_readCond_44 : decode cX9_readCond 44 = .ok (.ifCond .lt (-37), 3) := by decide +kernel
theorem dX9_readCond_47 : decode cX9_readCond 47 = .ok (.aload_n 0, 1) := by decide +kernel
theorem dX9_readCond_48 : decode cX9_readCond 48 = .ok (.iload_n 2, 1) := by decide +kernel
theorem dX9_readCond_49 : decode cX9_readCond 49 = .ok (.iload_n 1, 1) := by decide +kernel
theorem dX9_readCond_50 : decode cX9_readCond 50 = .ok (.invokevirtual 75, 3) := by decide +kernel
theorem dX9_readCond_53 : decode cX9_readCond 53 = .ok (.goto (-46), 3) := by decide +kernel
theorem dX9_readCond_56 : decode cX9_readCond 56 = .ok (.iload_n 1, 1) := by decide +kernel
theorem dX9_readCond_57 : decode cX9_readCond 57 = .ok (.ifCond .ge 7, 3) := by decide +kernel
theorem dX9_readCond_60 : decode cX9_readCond 60 = .ok (.iconst (-1), 1) := by decide +kernel
theorem dX9_readCond_61 : decode cX9_readCond 61 = .ok (.goto 12, 3) := by decide +kernel
theorem dX9_readCond_64 : decode cX9_readCond 64 = .ok (.iload_n 2, 1) := by decide +kernel
theorem dX9_readCond_65 : decode cX9_readCond 65 = .ok (.ifCond .ge 7, 3) := by decide +kernel
theorem dX9_readCond_68 : decode cX9_readCond 68 = .ok (.iload_n 1, 1) := by decide +kernel
theorem dX9_readCond_69 : decode cX9_readCond 69 = .ok (.goto 4, 3) := by decide +kernel
theorem dX9_readCond_72 : decode cX9_readCond 72 = .ok (.iload_n 2, 1) := by decide +kernel
theorem dX9_readCond_73 : decode cX9_readCond 73 = .ok (.ireturn, 1) := by decide +kernel
theorem dX9_readInto_0 : decode cX9_readInto 0 = .ok (.aload_n 0, 1) := by decide +kernel
theorem dX9_readInto_1 : decode cX9_readInto 1 = .ok (.iconst 0, 1) := by decide +kernel
theorem dX9_readInto_2 : decode cX9_readInto 2 = .ok (.putfield 62, 3) := by decide +kernel
theorem dX9_readInto_5 : decode cX9_readInto 5 = .ok (.aload_n 0, 1) := by decide +kernel
theorem dX9_readInto_6 : decode cX9_readInto 6 = .ok (.iconst 0, 1) := by decide +kernel
theorem dX9_readInto_7 : decode cX9_readInto 7 = .ok (.putfield 135, 3) := by decide +kernel
theorem dX9_readInto_10 : decode cX9_readInto 10 = .ok (.aload_n 0, 1) := by decide +kernel
theorem dX9_readInto_11 : decode cX9_readInto 11 = .ok (.invokevirtual 138, 3) := by decide +kernel
theorem dX9_readInto_14 : decode cX9_readInto 14 = .ok (.istore_n 2, 1) := by decide +kernel
theorem dX9_readInto_15 : decode cX9_readInto 15 = .ok (.iload_n 2, 1) := by decide +kernel
theorem dX9_readInto_16 : decode cX9_readInto 16 = .ok (.ifCond .ge 5, 3) := by decide +kernel
theorem dX9_readInto_19 : decode cX9_readInto 19 = .ok (.iconst 0, 1) := by decide +kernel
theorem dX9_readInto_20 : decode cX9_readInto 20 = .ok (.ireturn, 1) := by decide +kernel
theorem dX9_readInto_21 : decode cX9_readInto 21 = .ok (.aload_n 0, 1) := by decide +kernel
theorem dX9_readInto_22 : decode cX9_readInto 22 = .ok (.iload_n 2, 1) := by decide +kernel
theorem dX9_readInto_23 : decode cX9_readInto 23 = .ok (.iload_n 1, 1) := by decide +kernel
theorem dX9_readInto_24 : decode cX9_readInto 24 = .ok (.invokevirtual 161, 3) := by decide +kernel
theorem dX9_readInto_27 : decode cX9_readInto 27 = .ok (.iconst 1, 1) := by decide +kernel
theorem dX9_readInto_28 : decode cX9_readInto 28 = .ok (.ireturn, 1) := by decide +kernel
theorem dX9_readWho_0 : decode cX9_readWho 0 = .ok (.aload_n 0, 1) := by decide +kernel
theorem dX9_readWho_1 : decode cX9_readWho 1 = .ok (.ldc 164, 2) := by decide +kernel
theorem dX9_readWho_3 : decode cX9_readWho 3 = .ok (.invokevirtual 143, 3) := by decide +kernel
theorem dX9_readWho_6 : decode cX9_readWho 6 = .ok (.ifCond .eq 7, 3) := by decide +kernel
theorem dX9_readWho_9 : decode cX9_readWho 9 = .ok (.iconst 0, 1) := by decide +kernel
theorem dX9_readWho_10 : decode cX9_readWho 10 = .ok (.goto 30, 3) := by decide +kernel
theorem dX9_readWho_13 : decode cX9_readWho 13 = .ok (.aload_n 0, 1) := by decide +kernel
theorem dX9_readWho_14 : decode cX9_readWho 14 = .ok (.ldc 166, 2) := by decide +kernel
theorem dX9_readWho_16 : decode cX9_readWho 16 = .ok (.invokevirtual 143, 3) := by decide +kernel
theorem dX9_readWho_19 : decode cX9_readWho 19 = .ok (.ifCond .eq 7, 3) := by decide +kernel
theorem dX9_readWho_22 : decode cX9_readWho 22 = .ok (.iconst 1, 1) := by decide +kernel
theorem dX9_readWho_23 : decode cX9_readWho 23 = .ok (.goto 17, 3) := by decide +kernel
theorem dX9_readWho_26 : decode cX9_readWho 26 = .ok (.aload_n 0, 1) := by decide +kernel
theorem dX9_readWho_27 : decode cX9_readWho 27 = .ok (.ldc 168, 2) := by decide +kernel
theorem dX9_readWho_29 : decode cX9_readWho 29 = .ok (.invokevirtual 143, 3) := by decide +kernel
theorem dX9_readWho_32 : decode cX9_readWho 32 = .ok (.ifCond .eq 7, 3) := by decide +kernel
theorem dX9_readWho_35 : decode cX9_readWho 35 = .ok (.iconst 2, 1) := by decide +kernel
theorem dX9_readWho_36 : decode cX9_readWho 36 = .ok (.goto 4, 3) := by decide +kernel
theorem dX9_readWho_39 : decode cX9_readWho 39 = .ok (.iconst (-1), 1) := by decide +kernel
theorem dX9_readWho_40 : decode cX9_readWho 40 = .ok (.ireturn, 1) := by decide +kernel
theorem dX9_readMode_0 : decode cX9_readMode 0 = .ok (.aload_n 0, 1) := by decide +kernel
theorem dX9_readMode_1 : decode cX9_readMode 1 = .ok (.ldc 170, 2) := by decide +kernel
theorem dX9_readMode_3 : decode cX9_readMode 3 = .ok (.invokevirtual 143, 3) := by decide +kernel
theorem dX9_readMode_6 : decode cX9_readMode 6 = .ok (.ifCond .eq 12, 3) := by decide +kernel
theorem dX9_readMode_9 : decode cX9_readMode 9 = .ok (.aload_n 0, 1) := by decide +kernel
theorem dX9_readMode_10 : decode cX9_readMode 10 = .ok (.getfield 19, 3) := by decide +kernel
theorem dX9_readMode_13 : decode cX9_readMode 13 = .ok (.iload_n 1, 1) := by decide +kernel
theorem dX9_readMode_14 : decode cX9_readMode 14 = .ok (.iconst 2, 1) := by decide +kernel
theorem dX9_readMode_15 : decode cX9_readMode 15 = .ok (.iastore, 1) := by decide +kernel
theorem dX9_readMode_16 : decode cX9_readMode 16 = .ok (.iconst 1, 1) := by decide +kernel
theorem dX9_readMode_17 : decode cX9_readMode 17 = .ok (.ireturn, 1) := by decide +kernel
theorem dX9_readMode_18 : decode cX9_readMode 18 = .ok (.aload_n 0, 1) := by decide +kernel
theorem dX9_readMode_19 : decode cX9_readMode 19 = .ok (.ldc 172, 2) := by decide +kernel
theorem dX9_readMode_21 : decode cX9_readMode 21 = .ok (.invokevirtual 143, 3) := by decide +kernel
theorem dX9_readMode_24 : decode cX9_readMode 24 = .ok (.ifCond .ne 5, 3) := by decide +kernel
theorem dX9_readMode_27 : decode cX9_readMode 27 = .ok (.iconst 0, 1) := by decide +kernel
theorem dX9_readMode_28 : decode cX9_readMode 28 = .ok (.ireturn, 1) := by decide +kernel
theorem dX9_readMode_29 : decode cX9_readMode 29 = .ok (.aload_n 0, 1) := by decide +kernel
theorem dX9_readMode_30 : decode cX9_readMode 30 = .ok (.getfield 19, 3) := by decide +kernel
theorem dX9_readMode_33 : decode cX9_readMode 33 = .ok (.iload_n 1, 1) := by decide +kernel
theorem dX9_readMode_34 : decode cX9_readMode 34 = .ok (.aload_n 0, 1) := by decide +kernel
theorem dX9_readMode_35 : decode cX9_readMode 35 = .ok (.ldc 141, 2) := by decide +kernel
theorem dX9_readMode_37 : decode cX9_readMode 37 = .ok (.invokevirtual 143, 3) := by decide +kernel
theorem dX9_readMode_40 : decode cX9_readMode 40 = .ok (.ifCond .eq 7, 3) := by decide +kernel
theorem dX9_readMode_43 : decode cX9_readMode 43 = .ok (.iconst 1, 1) := by decide +kernel
theorem dX9_readMode_44 : decode cX9_readMode 44 = .ok (.goto 4, 3) := by decide +kernel
theorem dX9_readMode_47 : decode cX9_readMode 47 = .ok (.iconst 0, 1) := by decide +kernel
theorem dX9_readMode_48 : decode cX9_readMode 48 = .ok (.iastore, 1) := by decide +kernel
theorem dX9_readMode_49 : decode cX9_readMode 49 = .ok (.iconst 1, 1) := by decide +kernel
theorem dX9_readMode_50 : decode cX9_readMode 50 = .ok (.ireturn, 1) := by decide +kernel
theorem dX9_readActs_0 : decode cX9_readActs 0 = .ok (.iload_n 2, 1) := by decide +kernel
theorem dX9_readActs_1 : decode cX9_readActs 1 = .ok (.istore_n 3, 1) := by decide +kernel
theorem dX9_readActs_2 : decode cX9_readActs 2 = .ok (.iload_n 3, 1) := by decide +kernel
theorem dX9_readActs_3 : decode cX9_readActs 3 = .ok (.ifCond .ne 14, 3) := by decide +kernel
theorem dX9_readActs_6 : decode cX9_readActs 6 = .ok (.aload_n 0, 1) := by decide +kernel
theorem dX9_readActs_7 : decode cX9_readActs 7 = .ok (.ldc 174, 2) := by decide +kernel
theorem dX9_readActs_9 : decode cX9_readActs 9 = .ok (.invokevirtual 143, 3) := by decide +kernel
theorem dX9_readActs_12 : decode cX9_readActs 12 = .ok (.ifCond .ne 5, 3) := by decide +kernel
theorem dX9_readActs_15 : decode cX9_readActs 15 = .ok (.iconst 0, 1) := by decide +kernel
theorem dX9_readActs_16 : decode cX9_readActs 16 = .ok (.ireturn, 1) := by decide +kernel
theorem dX9_readActs_17 : decode cX9_readActs 17 = .ok (.iconst 0, 1) := by decide +kernel
theorem dX9_readActs_18 : decode cX9_readActs 18 = .ok (.istore_n 3, 1) := by decide +kernel
theorem dX9_readActs_19 : decode cX9_readActs 19 = .ok (.aload_n 0, 1) := by decide +kernel
theorem dX9_readActs_20 : decode cX9_readActs 20 = .ok (.iconst 0, 1) := by decide +kernel
theorem dX9_readActs_21 : decode cX9_readActs 21 = .ok (.bipush 9, 2) := by decide +kernel
theorem dX9_readActs_23 : decode cX9_readActs 23 = .ok (.invokevirtual 151, 3) := by decide +kernel
theorem dX9_readActs_26 : decode cX9_readActs 26 = .ok (.istore 4, 2) := by decide +kernel
theorem dX9_readActs_28 : decode cX9_readActs 28 = .ok (.iconst 0, 1) := by decide +kernel
theorem dX9_readActs_29 : decode cX9_readActs 29 = .ok (.istore 5, 2) := by decide +kernel
theorem dX9_readActs_31 : decode cX9_readActs 31 = .ok (.iload 5, 2) := by decide +kernel
theorem dX9_readActs_33 : decode cX9_readActs 33 = .ok (.aload_n 0, 1) := by decide +kernel
theorem dX9_readActs_34 : decode cX9_readActs 34 = .ok (.getfield 9, 3) := by decide +kernel
theorem dX9_readActs_37 : decode cX9_readActs 37 = .ok (.iload_n 1, 1) := by decide +kernel
theorem dX9_readActs_38 : decode cX9_readActs 38 = .ok (.iaload, 1) := by decide +kernel
theorem dX9_readActs_39 : decode cX9_readActs 39 = .ok (.if_icmp .ge 27, 3) := by decide +kernel
theorem dX9_readActs_42 : decode cX9_readActs 42 = .ok (.aload_n 0, 1) := by decide +kernel
theorem dX9_readActs_43 : decode cX9_readActs 43 = .ok (.getfield 13, 3) := by decide +kernel
theorem dX9_readActs_46 : decode cX9_readActs 46 = .ok (.iconst 3, 1) := by decide +kernel
theorem dX9_readActs_47 : decode cX9_readActs 47 = .ok (.iload_n 1, 1) := by decide +kernel
theorem dX9_readActs_48 : decode cX9_readActs 48 = .ok (.imul, 1) := by decide +kernel
theorem dX9_readActs_49 : decode cX9_readActs 49 = .ok (.iload 5, 2) := by decide +kernel
theorem dX9_readActs_51 : decode cX9_readActs 51 = .ok (.iadd, 1) := by decide +kernel
theorem dX9_readActs_52 : decode cX9_readActs 52 = .ok (.iaload, 1) := by decide +kernel
theorem dX9_readActs_53 : decode cX9_readActs 53 = .ok (.iload 4, 2) := by decide +kernel
theorem dX9_readActs_55 : decode cX9_readActs 55 = .ok (.if_icmp .ne 5, 3) := by decide +kernel
theorem dX9_readActs_58 : decode cX9_readActs 58 = .ok (.iconst 0, 1) := by decide +kernel
theorem dX9_readActs_59 : decode cX9_readActs 59 = .ok (.ireturn, 1) := by decide +kernel
theorem dX9_readActs_60 : decode cX9_readActs 60 = .ok (.iinc 5 1, 3) := by decide +kernel
theorem dX9_readActs_63 : decode cX9_readActs 63 = .ok (.goto (-32), 3) := by decide +kernel
theorem dX9_readActs_66 : decode cX9_readActs 66 = .ok (.iload 4, 2) := by decide +kernel
theorem dX9_readActs_68 : decode cX9_readActs 68 = .ok (.ifCond .ge 5, 3) := by decide +kernel
theorem dX9_readActs_71 : decode cX9_readActs 71 = .ok (.iconst 0, 1) := by decide +kernel
theorem dX9_readActs_72 : decode cX9_readActs 72 = .ok (.ireturn, 1) := by decide +kernel
theorem dX9_readActs_73 : decode cX9_readActs 73 = .ok (.aload_n 0, 1) := by decide +kernel
theorem dX9_readActs_74 : decode cX9_readActs 74 = .ok (.getfield 13, 3) := by decide +kernel
theorem dX9_readActs_77 : decode cX9_readActs 77 = .ok (.iconst 3, 1) := by decide +kernel
theorem dX9_readActs_78 : decode cX9_readActs 78 = .ok (.iload_n 1, 1) := by decide +kernel
theorem dX9_readActs_79 : decode cX9_readActs 79 = .ok (.imul, 1) := by decide +kernel
theorem dX9_readActs_80 : decode cX9_readActs 80 = .ok (.aload_n 0, 1) := by decide +kernel
theorem dX9_readActs_81 : decode cX9_readActs 81 = .ok (.getfield 9, 3) := by decide +kernel
theorem dX9_readActs_84 : decode cX9_readActs 84 = .ok (.iload_n 1, 1) := by decide +kernel
theorem dX9_readActs_85 : decode cX9_readActs 85 = .ok (.iaload, 1) := by decide +kernel
theorem dX9_readActs_86 : decode cX9_readActs 86 = .ok (.iadd, 1) := by decide +kernel
theorem dX9_readActs_87 : decode cX9_readActs 87 = .ok (.iload 4, 2) := by decide +kernel
theorem dX9_readActs_89 : decode cX9_readActs 89 = .ok (.iastore, 1) := by decide +kernel
theorem dX9_readActs_90 : decode cX9_readActs 90 = .ok (.aload_n 0, 1) := by decide +kernel
theorem dX9_readActs_91 : decode cX9_readActs 91 = .ok (.getfield 9, 3) := by decide +kernel
theorem dX9_readActs_94 : decode cX9_readActs 94 = .ok (.iload_n 1, 1) := by decide +kernel
theorem dX9_readActs_95 : decode cX9_readActs 95 = .ok (.dup2, 1) := by decide +kernel
theorem dX9_readActs_96 : decode cX9_readActs 96 = .ok (.iaload, 1) := by decide +kernel
theorem dX9_readActs_97 : decode cX9_readActs 97 = .ok (.iconst 1, 1) := by decide +kernel
theorem dX9_readActs_98 : decode cX9_readActs 98 = .ok (.iadd, 1) := by decide +kernel
theorem dX9_readActs_99 : decode cX9_readActs 99 = .ok (.iastore, 1) := by decide +kernel
theorem dX9_readActs_100 : decode cX9_readActs 100 = .ok (.aload_n 0, 1) := by decide +kernel
theorem dX9_readActs_101 : decode cX9_readActs 101 = .ok (.ldc 154, 2) := by decide +kernel
theorem dX9_readActs_103 : decode cX9_readActs 103 = .ok (.invokevirtual 143, 3) := by decide +kernel
theorem dX9_readActs_106 : decode cX9_readActs 106 = .ok (.ifCond .ne 5, 3) := by decide +kernel
theorem dX9_readActs_109 : decode cX9_readActs 109 = .ok (.iconst 1, 1) := by decide +kernel
theorem dX9_readActs_110 : decode cX9_readActs 110 = .ok (.ireturn, 1) := by decide +kernel
theorem dX9_readActs_111 : decode cX9_readActs 111 = .ok (.aload_n 0, 1) := by decide +kernel
theorem dX9_readActs_112 : decode cX9_readActs 112 = .ok (.getfield 9, 3) := by decide +kernel
theorem dX9_readActs_115 : decode cX9_readActs 115 = .ok (.iload_n 1, 1) := by decide +kernel
theorem dX9_readActs_116 : decode cX9_readActs 116 = .ok (.iaload, 1) := by decide +kernel
theorem dX9_readActs_117 : decode cX9_readActs 117 = .ok (.iconst 3, 1) := by decide +kernel
theorem dX9_readActs_118 : decode cX9_readActs 118 = .ok (.if_icmp .ne 5, 3) := by decide +kernel
theorem dX9_readActs_121 : decode cX9_readActs 121 = .ok (.iconst 0, 1) := by decide +kernel
theorem dX9_readActs_122 : decode cX9_readActs 122 = .ok (.ireturn, 1) := by decide +kernel
theorem dX9_readActs_123 : decode cX9_readActs 123 = .ok (.goto (-121), 3) := by decide +kernel
theorem dX9_readBody_0 : decode cX9_readBody 0 = .ok (.aload_n 0, 1) := by decide +kernel
theorem dX9_readBody_1 : decode cX9_readBody 1 = .ok (.getfield 16, 3) := by decide +kernel
theorem dX9_readBody_4 : decode cX9_readBody 4 = .ok (.iload_n 1, 1) := by decide +kernel
theorem dX9_readBody_5 : decode cX9_readBody 5 = .ok (.aload_n 0, 1) := by decide +kernel
theorem dX9_readBody_6 : decode cX9_readBody 6 = .ok (.invokevirtual 175, 3) := by decide +kernel
theorem dX9_readBody_9 : decode cX9_readBody 9 = .ok (.iastore, 1) := by decide +kernel
theorem dX9_readBody_10 : decode cX9_readBody 10 = .ok (.aload_n 0, 1) := by decide +kernel
theorem dX9_readBody_11 : decode cX9_readBody 11 = .ok (.getfield 16, 3) := by decide +kernel
theorem dX9_readBody_14 : decode cX9_readBody 14 = .ok (.iload_n 1, 1) := by decide +kernel
theorem dX9_readBody_15 : decode cX9_readBody 15 = .ok (.iaload, 1) := by decide +kernel
theorem dX9_readBody_16 : decode cX9_readBody 16 = .ok (.ifCond .lt 26, 3) := by decide +kernel
theorem dX9_readBody_19 : decode cX9_readBody 19 = .ok (.aload_n 0, 1) := by decide +kernel
theorem dX9_readBody_20 : decode cX9_readBody 20 = .ok (.iload_n 1, 1) := by decide +kernel
theorem dX9_readBody_21 : decode cX9_readBody 21 = .ok (.invokevirtual 178, 3) := by decide +kernel
theorem dX9_readBody_24 : decode cX9_readBody 24 = .ok (.ifCond .eq 16, 3) := by decide +kernel
theorem dX9_readBody_27 : decode cX9_readBody 27 = .ok (.aload_n 0, 1) := by decide +kernel
theorem dX9_readBody_28 : decode cX9_readBody 28 = .ok (.iload_n 1, 1) := by decide +kernel
theorem dX9_readBody_29 : decode cX9_readBody 29 = .ok (.iconst 0, 1) := by decide +kernel
theorem dX9_readBody_30 : decode cX9_readBody 30 = .ok (.invokevirtual 181, 3) := by decide +kernel
theorem dX9_readBody_33 : decode cX9_readBody 33 = .ok (.ifCond .eq 7, 3) := by decide +kernel
theorem dX9_readBody_36 : decode cX9_readBody 36 = .ok (.iconst 1, 1) := by decide +kernel
theorem dX9_readBody_37 : decode cX9_readBody 37 = .ok (.goto 4, 3) := by decide +kernel
theorem dX9_readBody_40 : decode cX9_readBody 40 = .ok (.iconst 0, 1) := by decide +kernel
theorem dX9_readBody_41 : decode cX9_readBody 41 = .ok (.ireturn, 1) := by decide +kernel
theorem dX9_readBody_42 : decode cX9_readBody 42 = .ok (.aload_n 0, 1) := by decide +kernel
theorem dX9_readBody_43 : decode cX9_readBody 43 = .ok (.getfield 16, 3) := by decide +kernel
theorem dX9_readBody_46 : decode cX9_readBody 46 = .ok (.iload_n 1, 1) := by decide +kernel
theorem dX9_readBody_47 : decode cX9_readBody 47 = .ok (.iconst 3, 1) := by decide +kernel
theorem dX9_readBody_48 : decode cX9_readBody 48 = .ok (.iastore, 1) := by decide +kernel
theorem dX9_readBody_49 : decode cX9_readBody 49 = .ok (.aload_n 0, 1) := by decide +kernel
theorem dX9_readBody_50 : decode cX9_readBody 50 = .ok (.getfield 25, 3) := by decide +kernel
theorem dX9_readBody_53 : decode cX9_readBody 53 = .ok (.iload_n 1, 1) := by decide +kernel
theorem dX9_readBody_54 : decode cX9_readBody 54 = .ok (.iconst 1, 1) := by decide +kernel
theorem dX9_readBody_55 : decode cX9_readBody 55 = .ok (.bastore, 1) := by decide +kernel
theorem dX9_readBody_56 : decode cX9_readBody 56 = .ok (.aload_n 0, 1) := by decide +kernel
theorem dX9_readBody_57 : decode cX9_readBody 57 = .ok (.ldc 174, 2) := by decide +kernel
theorem dX9_readBody_59 : decode cX9_readBody 59 = .ok (.invokevirtual 143, 3) := by decide +kernel
theorem dX9_readBody_62 : decode cX9_readBody 62 = .ok (.ifCond .eq 38, 3) := by decide +kernel
theorem dX9_readBody_65 : decode cX9_readBody 65 = .ok (.aload_n 0, 1) := by decide +kernel
theorem dX9_readBody_66 : decode cX9_readBody 66 = .ok (.iload_n 1, 1) := by decide +kernel
theorem dX9_readBody_67 : decode cX9_readBody 67 = .ok (.iconst 1, 1) := by decide +kernel
theorem dX9_readBody_68 : decode cX9_readBody 68 = .ok (.invokevirtual 181, 3) := by decide +kernel
theorem dX9_readBody_71 : decode cX9_readBody 71 = .ok (.ifCond .eq 29, 3) := by decide +kernel
theorem dX9_readBody_74 : decode cX9_readBody 74 = .ok (.aload_n 0, 1) := by decide +kernel
theorem dX9_readBody_75 : decode cX9_readBody 75 = .ok (.iload_n 1, 1) := by decide +kernel
theorem dX9_readBody_76 : decode cX9_readBody 76 = .ok (.invokevirtual 178, 3) := by decide +kernel
theorem dX9_readBody_79 : decode cX9_readBody 79 = .ok (.ifCond .eq 21, 3) := by decide +kernel
theorem dX9_readBody_82 : decode cX9_readBody 82 = .ok (.aload_n 0, 1) := by decide +kernel
theorem dX9_readBody_83 : decode cX9_readBody 83 = .ok (.ldc 185, 2) := by decide +kernel
theorem dX9_readBody_85 : decode cX9_readBody 85 = .ok (.invokevirtual 143, 3) := by decide +kernel
theorem dX9_readBody_88 : decode cX9_readBody 88 = .ok (.ifCond .eq 12, 3) := by decide +kernel
theorem dX9_readBody_91 : decode cX9_readBody 91 = .ok (.aload_n 0, 1) := by decide +kernel
theorem dX9_readBody_92 : decode cX9_readBody 92 = .ok (.ldc 187, 2) := by decide +kernel
theorem dX9_readBody_94 : decode cX9_readBody 94 = .ok (.invokevirtual 143, 3) := by decide +kernel
theorem dX9_readBody_97 : decode cX9_readBody 97 = .ok (.ifCond .ne 5, 3) := by decide +kernel
theorem dX9_readBody_100 : decode cX9_readBody 100 = .ok (.iconst 0, 1) := by decide +kernel
theorem dX9_readBody_101 : decode cX9_readBody 101 = .ok (.ireturn, 1) := by decide +kernel
theorem dX9_readBody_102 : decode cX9_readBody 102 = .ok (.aload_n 0, 1) := by decide +kernel
theorem dX9_readBody_103 : decode cX9_readBody 103 = .ok (.ldc 189, 2) := by decide +kernel
theorem dX9_readBody_105 : decode cX9_readBody 105 = .ok (.invokevirtual 143, 3) := by decide +kernel
theorem dX9_readBody_108 : decode cX9_readBody 108 = .ok (.ifCond .ne 5, 3) := by decide +kernel
theorem dX9_readBody_111 : decode cX9_readBody 111 = .ok (.iconst 1, 1) := by decide +kernel
theorem dX9_readBody_112 : decode cX9_readBody 112 = .ok (.ireturn, 1) := by decide +kernel
theorem dX9_readBody_113 : decode cX9_readBody 113 = .ok (.aload_n 0, 1) := by decide +kernel
theorem dX9_readBody_114 : decode cX9_readBody 114 = .ok (.getfield 16, 3) := by decide +kernel
theorem dX9_readBody_117 : decode cX9_readBody 117 = .ok (.iload_n 1, 1) := by decide +kernel
theorem dX9_readBody_118 : decode cX9_readBody 118 = .ok (.aload_n 0, 1) := by decide +kernel
theorem dX9_readBody_119 : decode cX9_readBody 119 = .ok (.invokevirtual 175, 3) := by decide +kernel
theorem dX9_readBody_122 : decode cX9_readBody 122 = .ok (.iastore, 1) := by decide +kernel
theorem dX9_readBody_123 : decode cX9_readBody 123 = .ok (.aload_n 0, 1) := by decide +kernel
theorem dX9_readBody_124 : decode cX9_readBody 124 = .ok (.getfield 16, 3) := by decide +kernel
theorem dX9_readBody_127 : decode cX9_readBody 127 = .ok (.iload_n 1, 1) := by decide +kernel
theorem dX9_readBody_128 : decode cX9_readBody 128 = .ok (.iaload, 1) := by decide +kernel
theorem dX9_readBody_129 : decode cX9_readBody 129 = .ok (.ifCond .lt 7, 3) := by decide +kernel
theorem dX9_readBody_132 : decode cX9_readBody 132 = .ok (.iconst 1, 1) := by decide +kernel
theorem dX9_readBody_133 : decode cX9_readBody 133 = .ok (.goto 4, 3) := by decide +kernel
theorem dX9_readBody_136 : decode cX9_readBody 136 = .ok (.iconst 0, 1) := by decide +kernel
theorem dX9_readBody_137 : decode cX9_readBody 137 = .ok (.ireturn, 1) := by decide +kernel
theorem dX9_readSentence_0 : decode cX9_readSentence 0 = .ok (.aload_n 0, 1) := by decide +kernel
theorem dX9_readSentence_1 : decode cX9_readSentence 1 = .ok (.getfield 9, 3) := by decide +kernel
theorem dX9_readSentence_4 : decode cX9_readSentence 4 = .ok (.iload_n 1, 1) := by decide +kernel
theorem dX9_readSentence_5 : decode cX9_readSentence 5 = .ok (.iconst 0, 1) := by decide +kernel
theorem dX9_readSentence_6 : decode cX9_readSentence 6 = .ok (.iastore, 1) := by decide +kernel
theorem dX9_readSentence_7 : decode cX9_readSentence 7 = .ok (.aload_n 0, 1) := by decide +kernel
theorem dX9_readSentence_8 : decode cX9_readSentence 8 = .ok (.getfield 25, 3) := by decide +kernel
theorem dX9_readSentence_11 : decode cX9_readSentence 11 = .ok (.iload_n 1, 1) := by decide +kernel
theorem dX9_readSentence_12 : decode cX9_readSentence 12 = .ok (.iconst 0, 1) := by decide +kernel
theorem dX9_readSentence_13 : decode cX9_readSentence 13 = .ok (.bastore, 1) := by decide +kernel
theorem dX9_readSentence_14 : decode cX9_readSentence 14 = .ok (.aload_n 0, 1) := by decide +kernel
theorem dX9_readSentence_15 : decode cX9_readSentence 15 = .ok (.getfield 22, 3) := by decide +kernel
theorem dX9_readSentence_18 : decode cX9_readSentence 18 = .ok (.iload_n 1, 1) := by decide +kernel
theorem dX9_readSentence_19 : decode cX9_readSentence 19 = .ok (.iconst (-1), 1) := by decide +kernel
theorem dX9_readSentence_20 : decode cX9_readSentence 20 = .ok (.iastore, 1) := by decide +kernel
theorem dX9_readSentence_21 : decode cX9_readSentence 21 = .ok (.aload_n 0, 1) := by decide +kernel
theorem dX9_readSentence_22 : decode cX9_readSentence 22 = .ok (.getfield 29, 3) := by decide +kernel
theorem dX9_readSentence_25 : decode cX9_readSentence 25 = .ok (.iconst 2, 1) := by decide +kernel
theorem dX9_readSentence_26 : decode cX9_readSentence 26 = .ok (.iload_n 1, 1) := by decide +kernel
theorem dX9_readSentence_27 : decode cX9_readSentence 27 = .ok (.imul, 1) := by decide +kernel
theorem dX9_readSentence_28 : decode cX9_readSentence 28 = .ok (.iconst 0, 1) := by decide +kernel
theorem dX9_readSentence_29 : decode cX9_readSentence 29 = .ok (.iastore, 1) := by decide +kernel
theorem dX9_readSentence_30 : decode cX9_readSentence 30 = .ok (.aload_n 0, 1) := by decide +kernel
theorem dX9_readSentence_31 : decode cX9_readSentence 31 = .ok (.getfield 29, 3) := by decide +kernel
theorem dX9_readSentence_34 : decode cX9_readSentence 34 = .ok (.iconst 2, 1) := by decide +kernel
theorem dX9_readSentence_35 : decode cX9_readSentence 35 = .ok (.iload_n 1, 1) := by decide +kernel
theorem dX9_readSentence_36 : decode cX9_readSentence 36 = .ok (.imul, 1) := by decide +kernel
theorem dX9_readSentence_37 : decode cX9_readSentence 37 = .ok (.iconst 1, 1) := by decide +kernel
theorem dX9_readSentence_38 : decode cX9_readSentence 38 = .ok (.iadd, 1) := by decide +kernel
theorem dX9_readSentence_39 : decode cX9_readSentence 39 = .ok (.iconst 0, 1) := by decide +kernel
theorem dX9_readSentence_40 : decode cX9_readSentence 40 = .ok (.iastore, 1) := by decide +kernel
theorem dX9_readSentence_41 : decode cX9_readSentence 41 = .ok (.aload_n 0, 1) := by decide +kernel
theorem dX9_readSentence_42 : decode cX9_readSentence 42 = .ok (.ldc 191, 2) := by decide +kernel
theorem dX9_readSentence_44 : decode cX9_readSentence 44 = .ok (.invokevirtual 143, 3) := by decide +kernel
theorem dX9_readSentence_47 : decode cX9_readSentence 47 = .ok (.ifCond .eq 24, 3) := by decide +kernel
theorem dX9_readSentence_50 : decode cX9_readSentence 50 = .ok (.aload_n 0, 1) := by decide +kernel
theorem dX9_readSentence_51 : decode cX9_readSentence 51 = .ok (.iconst 2, 1) := by decide +kernel
theorem dX9_readSentence_52 : decode cX9_readSentence 52 = .ok (.iload_n 1, 1) := by decide +kernel
theorem dX9_readSentence_53 : decode cX9_readSentence 53 = .ok (.imul, 1) := by decide +kernel
theorem dX9_readSentence_54 : decode cX9_readSentence 54 = .ok (.invokevirtual 193, 3) := by decide +kernel
theorem dX9_readSentence_57 : decode cX9_readSentence 57 = .ok (.ifCond .eq 12, 3) := by decide +kernel
theorem dX9_readSentence_60 : decode cX9_readSentence 60 = .ok (.aload_n 0, 1) := by decide +kernel
theorem dX9_readSentence_61 : decode cX9_readSentence 61 = .ok (.bipush 44, 2) := by decide +kernel
theorem dX9_readSentence_63 : decode cX9_readSentence 63 = .ok (.invokevirtual 131, 3) := by decide +kernel
theorem dX9_readSentence_66 : decode cX9_readSentence 66 = .ok (.ifCond .ne 5, 3) := by decide +kernel
theorem dX9_readSentence_69 : decode cX9_readSentence 69 = .ok (.iconst 0, 1) := by decide +kernel
theorem dX9_readSentence_70 : decode cX9_readSentence 70 = .ok (.ireturn, 1) := by decide +kernel
theorem dX9_readSentence_71 : decode cX9_readSentence 71 = .ok (.aload_n 0, 1) := by decide +kernel
theorem dX9_readSentence_72 : decode cX9_readSentence 72 = .ok (.iload_n 1, 1) := by decide +kernel
theorem dX9_readSentence_73 : decode cX9_readSentence 73 = .ok (.invokevirtual 196, 3) := by decide +kernel
theorem dX9_readSentence_76 : decode cX9_readSentence 76 = .ok (.ifCond .ne 5, 3) := by decide +kernel
theorem dX9_readSentence_79 : decode cX9_readSentence 79 = .ok (.iconst 0, 1) := by decide +kernel
theorem dX9_readSentence_80 : decode cX9_readSentence 80 = .ok (.ireturn, 1) := by decide +kernel
theorem dX9_readSentence_81 : decode cX9_readSentence 81 = .ok (.aload_n 0, 1) := by decide +kernel
theorem dX9_readSentence_82 : decode cX9_readSentence 82 = .ok (.ldc 199, 2) := by decide +kernel
theorem dX9_readSentence_84 : decode cX9_readSentence 84 = .ok (.invokevirtual 143, 3) := by decide +kernel
theorem dX9_readSentence_87 : decode cX9_readSentence 87 = .ok (.ifCond .eq 17, 3) := by decide +kernel
theorem dX9_readSentence_90 : decode cX9_readSentence 90 = .ok (.aload_n 0, 1) := by decide +kernel
theorem dX9_readSentence_91 : decode cX9_readSentence 91 = .ok (.iconst 2, 1) := by decide +kernel
theorem dX9_readSentence_92 : decode cX9_readSentence 92 = .ok (.iload_n 1, 1) := by decide +kernel
theorem dX9_readSentence_93 : decode cX9_readSentence 93 = .ok (.imul, 1) := by decide +kernel
theorem dX9_readSentence_94 : decode cX9_readSentence 94 = .ok (.iconst 1, 1) := by decide +kernel
theorem dX9_readSentence_95 : decode cX9_readSentence 95 = .ok (.iadd, 1) := by decide +kernel
theorem dX9_readSentence_96 : decode cX9_readSentence 96 = .ok (.invokevirtual 193, 3) := by decide +kernel
theorem dX9_readSentence_99 : decode cX9_readSentence 99 = .ok (.ifCond .ne 5, 3) := by decide +kernel
theorem dX9_readSentence_102 : decode cX9_readSentence 102 = .ok (.iconst 0, 1) := by decide +kernel
theorem dX9_readSentence_103 : decode cX9_readSentence 103 = .ok (.ireturn, 1) := by decide +kernel
theorem dX9_readSentence_104 : decode cX9_readSentence 104 = .ok (.aload_n 0, 1) := by decide +kernel
theorem dX9_readSentence_105 : decode cX9_readSentence 105 = .ok (.ldc 201, 2) := by decide +kernel
theorem dX9_readSentence_107 : decode cX9_readSentence 107 = .ok (.invokevirtual 143, 3) := by decide +kernel
theorem dX9_readSentence_110 : decode cX9_readSentence 110 = .ok (.ifCond .ne 5, 3) := by decide +kernel
theorem dX9_readSentence_113 : decode cX9_readSentence 113 = .ok (.iconst 1, 1) := by decide +kernel
theorem dX9_readSentence_114 : decode cX9_readSentence 114 = .ok (.ireturn, 1) := by decide +kernel
theorem dX9_readSentence_115 : decode cX9_readSentence 115 = .ok (.aload_n 0, 1) := by decide +kernel
theorem dX9_readSentence_116 : decode cX9_readSentence 116 = .ok (.getfield 22, 3) := by decide +kernel
theorem dX9_readSentence_119 : decode cX9_readSentence 119 = .ok (.iload_n 1, 1) := by decide +kernel
theorem dX9_readSentence_120 : decode cX9_readSentence 120 = .ok (.aload_n 0, 1) := by decide +kernel
theorem dX9_readSentence_121 : decode cX9_readSentence 121 = .ok (.iconst 1, 1) := by decide +kernel
theorem dX9_readSentence_122 : decode cX9_readSentence 122 = .ok (.sipush 365, 3) := by decide +kernel
theorem dX9_readSentence_125 : decode cX9_readSentence 125 = .ok (.invokevirtual 151, 3) := by decide +kernel
theorem dX9_readSentence_128 : decode cX9_readSentence 128 = .ok (.iastore, 1) := by decide +kernel
theorem dX9_readSentence_129 : decode cX9_readSentence 129 = .ok (.aload_n 0, 1) := by decide +kernel
theorem dX9_readSentence_130 : decode cX9_readSentence 130 = .ok (.getfield 22, 3) := by decide +kernel
theorem dX9_readSentence_133 : decode cX9_readSentence 133 = .ok (.iload_n 1, 1) := by decide +kernel
theorem dX9_readSentence_134 : decode cX9_readSentence 134 = .ok (.iaload, 1) := by decide +kernel
theorem dX9_readSentence_135 : decode cX9_readSentence 135 = .ok (.ifCond .lt 7, 3) := by decide +kernel
theorem dX9_readSentence_138 : decode cX9_readSentence 138 = .ok (.iconst 1, 1) := by decide +kernel
theorem dX9_readSentence_139 : decode cX9_readSentence 139 = .ok (.goto 4, 3) := by decide +kernel
theorem dX9_readSentence_142 : decode cX9_readSentence 142 = .ok (.iconst 0, 1) := by decide +kernel
theorem dX9_readSentence_143 : decode cX9_readSentence 143 = .ok (.ireturn, 1) := by decide +kernel
theorem dX9_readAll_0 : decode cX9_readAll 0 = .ok (.aload_n 0, 1) := by decide +kernel
theorem dX9_readAll_1 : decode cX9_readAll 1 = .ok (.iconst 0, 1) := by decide +kernel
theorem dX9_readAll_2 : decode cX9_readAll 2 = .ok (.putfield 99, 3) := by decide +kernel
theorem dX9_readAll_5 : decode cX9_readAll 5 = .ok (.iconst 0, 1) := by decide +kernel
theorem dX9_readAll_6 : decode cX9_readAll 6 = .ok (.istore_n 1, 1) := by decide +kernel
theorem dX9_readAll_7 : decode cX9_readAll 7 = .ok (.aload_n 0, 1) := by decide +kernel
theorem dX9_readAll_8 : decode cX9_readAll 8 = .ok (.bipush 48, 2) := by decide +kernel
theorem dX9_readAll_10 : decode cX9_readAll 10 = .ok (.iload_n 1, 1) := by decide +kernel
theorem dX9_readAll_11 : decode cX9_readAll 11 = .ok (.iadd, 1) := by decide +kernel
theorem dX9_readAll_12 : decode cX9_readAll 12 = .ok (.invokevirtual 203, 3) := by decide +kernel
theorem dX9_readAll_15 : decode cX9_readAll 15 = .ok (.ifCond .ne 5, 3) := by decide +kernel
theorem dX9_readAll_18 : decode cX9_readAll 18 = .ok (.iconst (-1), 1) := by decide +kernel
theorem dX9_readAll_19 : decode cX9_readAll 19 = .ok (.ireturn, 1) := by decide +kernel
theorem dX9_readAll_20 : decode cX9_readAll 20 = .ok (.iinc 1 1, 3) := by decide +kernel
theorem dX9_readAll_23 : decode cX9_readAll 23 = .ok (.aload_n 0, 1) := by decide +kernel
theorem dX9_readAll_24 : decode cX9_readAll 24 = .ok (.invokevirtual 112, 3) := by decide +kernel
theorem dX9_readAll_27 : decode cX9_readAll 27 = .ok (.aload_n 0, 1) := by decide +kernel
theorem dX9_readAll_28 : decode cX9_readAll 28 = .ok (.getfield 99, 3) := by decide +kernel
theorem dX9_readAll_31 : decode cX9_readAll 31 = .ok (.aload_n 0, 1) := by decide +kernel
theorem dX9_readAll_32 : decode cX9_readAll 32 = .ok (.getfield 102, 3) := by decide +kernel
theorem dX9_readAll_35 : decode cX9_readAll 35 = .ok (.if_icmp .ne 5, 3) := by decide +kernel
theorem dX9_readAll_38 : decode cX9_readAll 38 = .ok (.iload_n 1, 1) := by decide +kernel
theorem dX9_readAll_39 : decode cX9_readAll 39 = .ok (.ireturn, 1) := by decide +kernel
theorem dX9_readAll_40 : decode cX9_readAll 40 = .ok (.aload_n 0, 1) := by decide +kernel
theorem dX9_readAll_41 : decode cX9_readAll 41 = .ok (.bipush 59, 2) := by decide +kernel
theorem dX9_readAll_43 : decode cX9_readAll 43 = .ok (.bipush 59, 2) := by decide +kernel
theorem dX9_readAll_45 : decode cX9_readAll 45 = .ok (.invokevirtual 105, 3) := by decide +kernel
theorem dX9_readAll_48 : decode cX9_readAll 48 = .ok (.ifCond .eq 9, 3) := by decide +kernel
theorem dX9_readAll_51 : decode cX9_readAll 51 = .ok (.iload_n 1, 1) := by decide +kernel
theorem dX9_readAll_52 : decode cX9_readAll 52 = .ok (.bipush 8, 2) := by decide +kernel
theorem dX9_readAll_54 : decode cX9_readAll 54 = .ok (.if_icmp .ne 5, 3) := by decide +kernel
theorem dX9_readAll_57 : decode cX9_readAll 57 = .ok (.iconst (-1), 1) := by decide +kernel
theorem dX9_readAll_58 : decode cX9_readAll 58 = .ok (.ireturn, 1) := by decide +kernel
theorem dX9_readAll_59 : decode cX9_readAll 59 = .ok (.aload_n 0, 1) := by decide +kernel
theorem dX9_readAll_60 : decode cX9_readAll 60 = .ok (.dup, 1) := by decide +kernel
theorem dX9_readAll_61 : decode cX9_readAll 61 = .ok (.getfield 99, 3) := by decide +kernel
theorem dX9_readAll_64 : decode cX9_readAll 64 = .ok (.iconst 1, 1) := by decide +kernel
theorem dX9_readAll_65 : decode cX9_readAll 65 = .ok (.iadd, 1) := by decide +kernel
theorem dX9_readAll_66 : decode cX9_readAll 66 = .ok (.putfield 99, 3) := by decide +kernel
theorem dX9_readAll_69 : decode cX9_readAll 69 = .ok (.goto (-62), 3) := by decide +kernel
theorem dX9_letter_0 : decode cX9_letter 0 = .ok (.aload_n 0, 1) := by decide +kernel
theorem dX9_letter_1 : decode cX9_letter 1 = .ok (.iconst 0, 1) := by decide +kernel
theorem dX9_letter_2 : decode cX9_letter 2 = .ok (.putfield 59, 3) := by decide +kernel
theorem dX9_letter_5 : decode cX9_letter 5 = .ok (.aload_n 0, 1) := by decide +kernel
theorem dX9_letter_6 : decode cX9_letter 6 = .ok (.aload_n 0, 1) := by decide +kernel
theorem dX9_letter_7 : decode cX9_letter 7 = .ok (.getfield 96, 3) := by decide +kernel
theorem dX9_letter_10 : decode cX9_letter 10 = .ok (.putfield 102, 3) := by decide +kernel
theorem dX9_letter_13 : decode cX9_letter 13 = .ok (.aload_n 0, 1) := by decide +kernel
theorem dX9_letter_14 : decode cX9_letter 14 = .ok (.iconst 0, 1) := by decide +kernel
theorem dX9_letter_15 : decode cX9_letter 15 = .ok (.putfield 96, 3) := by decide +kernel
theorem dX9_letter_18 : decode cX9_letter 18 = .ok (.aload_n 0, 1) := by decide +kernel
theorem dX9_letter_19 : decode cX9_letter 19 = .ok (.invokevirtual 206, 3) := by decide +kernel
theorem dX9_letter_22 : decode cX9_letter 22 = .ok (.istore_n 1, 1) := by decide +kernel
theorem dX9_letter_23 : decode cX9_letter 23 = .ok (.aload_n 0, 1) := by decide +kernel
theorem dX9_letter_24 : decode cX9_letter 24 = .ok (.iload_n 1, 1) := by decide +kernel
theorem dX9_letter_25 : decode cX9_letter 25 = .ok (.ifCond .ge 10, 3) := by decide +kernel
theorem dX9_letter_28 : decode cX9_letter 28 = .ok (.aload_n 0, 1) := by decide +kernel
theorem dX9_letter_29 : decode cX9_letter 29 = .ok (.getfield 109, 3) := by decide +kernel
theorem dX9_letter_32 : decode cX9_letter 32 = .ok (.goto 4, 3) := by decide +kernel
theorem dX9_letter_35 : decode cX9_letter 35 = .ok (.iconst (-1), 1) := by decide +kernel
theorem dX9_letter_36 : decode cX9_letter 36 = .ok (.putfield 49, 3) := by decide +kernel
theorem dX9_letter_39 : decode cX9_letter 39 = .ok (.aload_n 0, 1) := by decide +kernel
theorem dX9_letter_40 : decode cX9_letter 40 = .ok (.iload_n 1, 1) := by decide +kernel
theorem dX9_letter_41 : decode cX9_letter 41 = .ok (.ifCond .ge 7, 3) := by decide +kernel
theorem dX9_letter_44 : decode cX9_letter 44 = .ok (.iconst 1, 1) := by decide +kernel
theorem dX9_letter_45 : decode cX9_letter 45 = .ok (.goto 4, 3) := by decide +kernel
theorem dX9_letter_48 : decode cX9_letter 48 = .ok (.iconst 0, 1) := by decide +kernel
theorem dX9_letter_49 : decode cX9_letter 49 = .ok (.iconst 1, 1) := by decide +kernel
theorem dX9_letter_50 : decode cX9_letter 50 = .ok (.invokevirtual 209, 3) := by decide +kernel
theorem dX9_letter_53 : decode cX9_letter 53 = .ok (.ifCond .eq 5, 3) := by decide +kernel
theorem dX9_letter_56 : decode cX9_letter 56 = .ok (.iconst 0, 1) := by decide +kernel
theorem dX9_letter_57 : decode cX9_letter 57 = .ok (.ireturn, 1) := by decide +kernel
theorem dX9_letter_58 : decode cX9_letter 58 = .ok (.iconst 0, 1) := by decide +kernel
theorem dX9_letter_59 : decode cX9_letter 59 = .ok (.istore_n 2, 1) := by decide +kernel
theorem dX9_letter_60 : decode cX9_letter 60 = .ok (.iload_n 2, 1) := by decide +kernel
theorem dX9_letter_61 : decode cX9_letter 61 = .ok (.iload_n 1, 1) := by decide +kernel
theorem dX9_letter_62 : decode cX9_letter 62 = .ok (.if_icmp .ge 20, 3) := by decide +kernel
theorem dX9_letter_65 : decode cX9_letter 65 = .ok (.aload_n 0, 1) := by decide +kernel
theorem dX9_letter_66 : decode cX9_letter 66 = .ok (.bipush 48, 2) := by decide +kernel
theorem dX9_letter_68 : decode cX9_letter 68 = .ok (.iload_n 2, 1) := by decide +kernel
theorem dX9_letter_69 : decode cX9_letter 69 = .ok (.iadd, 1) := by decide +kernel
theorem dX9_letter_70 : decode cX9_letter 70 = .ok (.iconst 0, 1) := by decide +kernel
theorem dX9_letter_71 : decode cX9_letter 71 = .ok (.iload_n 2, 1) := by decide +kernel
theorem dX9_letter_72 : decode cX9_letter 72 = .ok (.iadd, 1) := by decide +kernel
theorem dX9_letter_73 : decode cX9_letter 73 = .ok (.invokevirtual 213, 3) := by decide +kernel
theorem dX9_letter_76 : decode cX9_letter 76 = .ok (.iinc 2 1, 3) := by decide +kernel
theorem dX9_letter_79 : decode cX9_letter 79 = .ok (.goto (-19), 3) := by decide +kernel
theorem dX9_letter_82 : decode cX9_letter 82 = .ok (.aload_n 0, 1) := by decide +kernel
theorem dX9_letter_83 : decode cX9_letter 83 = .ok (.iload_n 1, 1) := by decide +kernel
theorem dX9_letter_84 : decode cX9_letter 84 = .ok (.putfield 216, 3) := by decide +kernel
theorem dX9_letter_87 : decode cX9_letter 87 = .ok (.aload_n 0, 1) := by decide +kernel
theorem dX9_letter_88 : decode cX9_letter 88 = .ok (.iconst 1, 1) := by decide +kernel
theorem dX9_letter_89 : decode cX9_letter 89 = .ok (.putfield 219, 3) := by decide +kernel
theorem dX9_letter_92 : decode cX9_letter 92 = .ok (.aload_n 0, 1) := by decide +kernel
theorem dX9_letter_93 : decode cX9_letter 93 = .ok (.dup, 1) := by decide +kernel
theorem dX9_letter_94 : decode cX9_letter 94 = .ok (.getfield 223, 3) := by decide +kernel
theorem dX9_letter_97 : decode cX9_letter 97 = .ok (.iconst 1, 1) := by decide +kernel
theorem dX9_letter_98 : decode cX9_letter 98 = .ok (.iadd, 1) := by decide +kernel
theorem dX9_letter_99 : decode cX9_letter 99 = .ok (.putfield 223, 3) := by decide +kernel
theorem dX9_letter_102 : decode cX9_letter 102 = .ok (.aload_n 0, 1) := by decide +kernel
theorem dX9_letter_103 : decode cX9_letter 103 = .ok (.iconst 0, 1) := by decide +kernel
theorem dX9_letter_104 : decode cX9_letter 104 = .ok (.putfield 226, 3) := by decide +kernel
theorem dX9_letter_107 : decode cX9_letter 107 = .ok (.aload_n 0, 1) := by decide +kernel
theorem dX9_letter_108 : decode cX9_letter 108 = .ok (.invokevirtual 229, 3) := by decide +kernel
theorem dX9_letter_111 : decode cX9_letter 111 = .ok (.iload_n 1, 1) := by decide +kernel
theorem dX9_letter_112 : decode cX9_letter 112 = .ok (.ireturn, 1) := by decide +kernel
theorem dX9_renews_0 : decode cX9_renews 0 = .ok (.iconst 0, 1) := by decide +kernel
theorem dX9_renews_1 : decode cX9_renews 1 = .ok (.istore_n 1, 1) := by decide +kernel
theorem dX9_renews_2 : decode cX9_renews 2 = .ok (.iload_n 1, 1) := by decide +kernel
theorem dX9_renews_3 : decode cX9_renews 3 = .ok (.aload_n 0, 1) := by decide +kernel
theorem dX9_renews_4 : decode cX9_renews 4 = .ok (.getfield 216, 3) := by decide +kernel
theorem dX9_renews_7 : decode cX9_renews 7 = .ok (.if_icmp .ge 20, 3) := by decide +kernel
theorem dX9_renews_10 : decode cX9_renews 10 = .ok (.aload_n 0, 1) := by decide +kernel
theorem dX9_renews_11 : decode cX9_renews 11 = .ok (.iconst 0, 1) := by decide +kernel
theorem dX9_renews_12 : decode cX9_renews 12 = .ok (.iload_n 1, 1) := by decide +kernel
theorem dX9_renews_13 : decode cX9_renews 13 = .ok (.iadd, 1) := by decide +kernel
theorem dX9_renews_14 : decode cX9_renews 14 = .ok (.bipush 24, 2) := by decide +kernel
theorem dX9_renews_16 : decode cX9_renews 16 = .ok (.iload_n 1, 1) := by decide +kernel
theorem dX9_renews_17 : decode cX9_renews 17 = .ok (.iadd, 1) := by decide +kernel
theorem dX9_renews_18 : decode cX9_renews 18 = .ok (.invokevirtual 213, 3) := by decide +kernel
theorem dX9_renews_21 : decode cX9_renews 21 = .ok (.iinc 1 1, 3) := by decide +kernel
theorem dX9_renews_24 : decode cX9_renews 24 = .ok (.goto (-22), 3) := by decide +kernel
theorem dX9_renews_27 : decode cX9_renews 27 = .ok (.aload_n 0, 1) := by decide +kernel
theorem dX9_renews_28 : decode cX9_renews 28 = .ok (.aload_n 0, 1) := by decide +kernel
theorem dX9_renews_29 : decode cX9_renews 29 = .ok (.getfield 216, 3) := by decide +kernel
theorem dX9_renews_32 : decode cX9_renews 32 = .ok (.putfield 232, 3) := by decide +kernel
theorem dX9_renews_35 : decode cX9_renews 35 = .ok (.return_, 1) := by decide +kernel
theorem dX9_fault_0 : decode cX9_fault 0 = .ok (.aload_n 0, 1) := by decide +kernel
theorem dX9_fault_1 : decode cX9_fault 1 = .ok (.iconst 0, 1) := by decide +kernel
theorem dX9_fault_2 : decode cX9_fault 2 = .ok (.putfield 59, 3) := by decide +kernel
theorem dX9_fault_5 : decode cX9_fault 5 = .ok (.aload_n 0, 1) := by decide +kernel
theorem dX9_fault_6 : decode cX9_fault 6 = .ok (.getfield 49, 3) := by decide +kernel
theorem dX9_fault_9 : decode cX9_fault 9 = .ok (.ireturn, 1) := by decide +kernel
theorem dX9_put_0 : decode cX9_put 0 = .ok (.iload_n 2, 1) := by decide +kernel
theorem dX9_put_1 : decode cX9_put 1 = .ok (.ifCond .eq 31, 3) := by decide +kernel
theorem dX9_put_4 : decode cX9_put 4 = .ok (.aload_n 0, 1) := by decide +kernel
theorem dX9_put_5 : decode cX9_put 5 = .ok (.getfield 235, 3) := by decide +kernel
theorem dX9_put_8 : decode cX9_put 8 = .ok (.ifCond .le 24, 3) := by decide +kernel
theorem dX9_put_11 : decode cX9_put 11 = .ok (.aload_n 0, 1) := by decide +kernel
theorem dX9_put_12 : decode cX9_put 12 = .ok (.getfield 56, 3) := by decide +kernel
theorem dX9_put_15 : decode cX9_put 15 = .ok (.aload_n 0, 1) := by decide +kernel
theorem dX9_put_16 : decode cX9_put 16 = .ok (.getfield 235, 3) := by decide +kernel
theorem dX9_put_19 : decode cX9_put 19 = .ok (.bipush 32, 2) := by decide +kernel
theorem dX9_put_21 : decode cX9_put 21 = .ok (.bastore, 1) := by decide +kernel
theorem dX9_put_22 : decode cX9_put 22 = .ok (.aload_n 0, 1) := by decide +kernel
theorem dX9_put_23 : decode cX9_put 23 = .ok (.dup, 1) := by decide +kernel
theorem dX9_put_24 : decode cX9_put 24 = .ok (.getfield 235, 3) := by decide +kernel
theorem dX9_put_27 : decode cX9_put 27 = .ok (.iconst 1, 1) := by decide +kernel
theorem dX9_put_28 : decode cX9_put 28 = .ok (.iadd, 1) := by decide +kernel
theorem dX9_put_29 : decode cX9_put 29 = .ok (.putfield 235, 3) := by decide +kernel
theorem dX9_put_32 : decode cX9_put 32 = .ok (.iconst 0, 1) := by decide +kernel
theorem dX9_put_33 : decode cX9_put 33 = .ok (.istore_n 3, 1) := by decide +kernel
theorem dX9_put_34 : decode cX9_put 34 = .ok (.iload_n 3, 1) := by decide +kernel
theorem dX9_put_35 : decode cX9_put 35 = .ok (.aload_n 1, 1) := by decide +kernel
theorem dX9_put_36 : decode cX9_put 36 = .ok (.invokevirtual 115, 3) := by decide +kernel
theorem dX9_put_39 : decode cX9_put 39 = .ok (.if_icmp .ge 34, 3) := by decide +kernel
theorem dX9_put_42 : decode cX9_put 42 = .ok (.aload_n 0, 1) := by decide +kernel
theorem dX9_put_43 : decode cX9_put 43 = .ok (.getfield 56, 3) := by decide +kernel
theorem dX9_put_46 : decode cX9_put 46 = .ok (.aload_n 0, 1) := by decide +kernel
theorem dX9_put_47 : decode cX9_put 47 = .ok (.getfield 235, 3) := by decide +kernel
theorem dX9_put_50 : decode cX9_put 50 = .ok (.aload_n 1, 1) := by decide +kernel
theorem dX9_put_51 : decode cX9_put 51 = .ok (.iload_n 3, 1) := by decide +kernel
theorem dX9_put_52 : decode cX9_put 52 = .ok (.invokevirtual 120, 3) := by decide +kernel
theorem dX9_put_55 : decode cX9_put 55 = .ok (.i2b, 1) := by decide +kernel
theorem dX9_put_56 : decode cX9_put 56 = .ok (.bastore, 1) := by decide +kernel
theorem dX9_put_57 : decode cX9_put 57 = .ok (.aload_n 0, 1) := by decide +kernel
theorem dX9_put_58 : decode cX9_put 58 = .ok (.dup, 1) := by decide +kernel
theorem dX9_put_59 : decode cX9_put 59 = .ok (.getfield 235, 3) := by decide +kernel
theorem dX9_put_62 : decode cX9_put 62 = .ok (.iconst 1, 1) := by decide +kernel
theorem dX9_put_63 : decode cX9_put 63 = .ok (.iadd, 1) := by decide +kernel
theorem dX9_put_64 : decode cX9_put 64 = .ok (.putfield 235, 3) := by decide +kernel
theorem dX9_put_67 : decode cX9_put 67 = .ok (.iinc 3 1, 3) := by decide +kernel
theorem dX9_put_70 : decode cX9_put 70 = .ok (.goto (-36), 3) := by decide +kernel
theorem dX9_put_73 : decode cX9_put 73 = .ok (.return_, 1) := by decide +kernel
theorem dX9_putWord_0 : decode cX9_putWord 0 = .ok (.aload_n 0, 1) := by decide +kernel
theorem dX9_putWord_1 : decode cX9_putWord 1 = .ok (.aload_n 1, 1) := by decide +kernel
theorem dX9_putWord_2 : decode cX9_putWord 2 = .ok (.aload_n 0, 1) := by decide +kernel
theorem dX9_putWord_3 : decode cX9_putWord 3 = .ok (.getfield 238, 3) := by decide +kernel
theorem dX9_putWord_6 : decode cX9_putWord 6 = .ok (.ifCond .ne 7, 3) := by decide +kernel
theorem dX9_putWord_9 : decode cX9_putWord 9 = .ok (.iconst 1, 1) := by decide +kernel
theorem dX9_putWord_10 : decode cX9_putWord 10 = .ok (.goto 4, 3) := by decide +kernel
theorem dX9_putWord_13 : decode cX9_putWord 13 = .ok (.iconst 0, 1) := by decide +kernel
theorem dX9_putWord_14 : decode cX9_putWord 14 = .ok (.invokevirtual 241, 3) := by decide +kernel
theorem dX9_putWord_17 : decode cX9_putWord 17 = .ok (.aload_n 0, 1) := by decide +kernel
theorem dX9_putWord_18 : decode cX9_putWord 18 = .ok (.iconst 0, 1) := by decide +kernel
theorem dX9_putWord_19 : decode cX9_putWord 19 = .ok (.putfield 238, 3) := by decide +kernel
theorem dX9_putWord_22 : decode cX9_putWord 22 = .ok (.aload_n 0, 1) := by decide +kernel
theorem dX9_putWord_23 : decode cX9_putWord 23 = .ok (.dup, 1) := by decide +kernel
theorem dX9_putWord_24 : decode cX9_putWord 24 = .ok (.getfield 245, 3) := by decide +kernel
theorem dX9_putWord_27 : decode cX9_putWord 27 = .ok (.iconst 1, 1) := by decide +kernel
theorem dX9_putWord_28 : decode cX9_putWord 28 = .ok (.iadd, 1) := by decide +kernel
theorem dX9_putWord_29 : decode cX9_putWord 29 = .ok (.putfield 245, 3) := by decide +kernel
theorem dX9_putWord_32 : decode cX9_putWord 32 = .ok (.return_, 1) := by decide +kernel
theorem dX9_putNumber_0 : decode cX9_putNumber 0 = .ok (.aload_n 0, 1) := by decide +kernel
theorem dX9_putNumber_1 : decode cX9_putNumber 1 = .ok (.getfield 56, 3) := by decide +kernel
theorem dX9_putNumber_4 : decode cX9_putNumber 4 = .ok (.aload_n 0, 1) := by decide +kernel
theorem dX9_putNumber_5 : decode cX9_putNumber 5 = .ok (.getfield 235, 3) := by decide +kernel
theorem dX9_putNumber_8 : decode cX9_putNumber 8 = .ok (.bipush 32, 2) := by decide +kernel
theorem dX9_putNumber_10 : decode cX9_putNumber 10 = .ok (.bastore, 1) := by decide +kernel
theorem dX9_putNumber_11 : decode cX9_putNumber 11 = .ok (.aload_n 0, 1) := by decide +kernel
theorem dX9_putNumber_12 : decode cX9_putNumber 12 = .ok (.dup, 1) := by decide +kernel
theorem dX9_putNumber_13 : decode cX9_putNumber 13 = .ok (.getfield 235, 3) := by decide +kernel
theorem dX9_putNumber_16 : decode cX9_putNumber 16 = .ok (.iconst 1, 1) := by decide +kernel
theorem dX9_putNumber_17 : decode cX9_putNumber 17 = .ok (.iadd, 1) := by decide +kernel
theorem dX9_putNumber_18 : decode cX9_putNumber 18 = .ok (.putfield 235, 3) := by decide +kernel
theorem dX9_putNumber_21 : decode cX9_putNumber 21 = .ok (.iload_n 1, 1) := by decide +kernel
theorem dX9_putNumber_22 : decode cX9_putNumber 22 = .ok (.bipush 99, 2) := by decide +kernel
theorem dX9_putNumber_24 : decode cX9_putNumber 24 = .ok (.if_icmp .le 8, 3) := by decide +kernel
theorem dX9_putNumber_27 : decode cX9_putNumber 27 = .ok (.bipush 100, 2) := by decide +kernel
theorem dX9_putNumber_29 : decode cX9_putNumber 29 = .ok (.goto 15, 3) := by decide +kernel
theorem dX9_putNumber_32 : decode cX9_putNumber 32 = .ok (.iload_n 1, 1) := by decide +kernel
theorem dX9_putNumber_33 : decode cX9_putNumber 33 = .ok (.bipush 9, 2) := by decide +kernel
theorem dX9_putNumber_35 : decode cX9_putNumber 35 = .ok (.if_icmp .le 8, 3) := by decide +kernel
theorem dX9_putNumber_38 : decode cX9_putNumber 38 = .ok (.bipush 10, 2) := by decide +kernel
theorem dX9_putNumber_40 : decode cX9_putNumber 40 = .ok (.goto 4, 3) := by decide +kernel
theorem dX9_putNumber_43 : decode cX9_putNumber 43 = .ok (.iconst 1, 1) := by decide +kernel
theorem dX9_putNumber_44 : decode cX9_putNumber 44 = .ok (.istore_n 2, 1) := by decide +kernel
theorem dX9_putNumber_45 : decode cX9_putNumber 45 = .ok (.iload_n 2, 1) := by decide +kernel
theorem dX9_putNumber_46 : decode cX9_putNumber 46 = .ok (.ifCond .le 40, 3) := by decide +kernel
theorem dX9_putNumber_49 : decode cX9_putNumber 49 = .ok (.aload_n 0, 1) := by decide +kernel
theorem dX9_putNumber_50 : decode cX9_putNumber 50 = .ok (.getfield 56, 3) := by decide +kernel
theorem dX9_putNumber_53 : decode cX9_putNumber 53 = .ok (.aload_n 0, 1) := by decide +kernel
theorem dX9_putNumber_54 : decode cX9_putNumber 54 = .ok (.getfield 235, 3) := by decide +kernel
theorem dX9_putNumber_57 : decode cX9_putNumber 57 = .ok (.bipush 48, 2) := by decide +kernel
theorem dX9_putNumber_59 : decode cX9_putNumber 59 = .ok (.iload_n 1, 1) := by decide +kernel
theorem dX9_putNumber_60 : decode cX9_putNumber 60 = .ok (.iload_n 2, 1) := by decide +kernel
theorem dX9_putNumber_61 : decode cX9_putNumber 61 = .ok (.idiv, 1) := by decide +kernel
theorem dX9_putNumber_62 : decode cX9_putNumber 62 = .ok (.bipush 10, 2) := by decide +kernel
theorem dX9_putNumber_64 : decode cX9_putNumber 64 = .ok (.irem, 1) := by decide +kernel
theorem dX9_putNumber_65 : decode cX9_putNumber 65 = .ok (.iadd, 1) := by decide +kernel
theorem dX9_putNumber_66 : decode cX9_putNumber 66 = .ok (.i2b, 1) := by decide +kernel
theorem dX9_putNumber_67 : decode cX9_putNumber 67 = .ok (.bastore, 1) := by decide +kernel
theorem dX9_putNumber_68 : decode cX9_putNumber 68 = .ok (.aload_n 0, 1) := by decide +kernel
theorem dX9_putNumber_69 : decode cX9_putNumber 69 = .ok (.dup, 1) := by decide +kernel
theorem dX9_putNumber_70 : decode cX9_putNumber 70 = .ok (.getfield 235, 3) := by decide +kernel
theorem dX9_putNumber_73 : decode cX9_putNumber 73 = .ok (.iconst 1, 1) := by decide +kernel
theorem dX9_putNumber_74 : decode cX9_putNumber 74 = .ok (.iadd, 1) := by decide +kernel
theorem dX9_putNumber_75 : decode cX9_putNumber 75 = .ok (.putfield 235, 3) := by decide +kernel
theorem dX9_putNumber_78 : decode cX9_putNumber 78 = .ok (.iload_n 2, 1) := by decide +kernel
theorem dX9_putNumber_79 : decode cX9_putNumber 79 = .ok (.bipush 10, 2) := by decide +kernel
theorem dX9_putNumber_81 : decode cX9_putNumber 81 = .ok (.idiv, 1) := by decide +kernel
theorem dX9_putNumber_82 : decode cX9_putNumber 82 = .ok (.istore_n 2, 1) := by decide +kernel
theorem dX9_putNumber_83 : decode cX9_putNumber 83 = .ok (.goto (-38), 3) := by decide +kernel
theorem dX9_putNumber_86 : decode cX9_putNumber 86 = .ok (.aload_n 0, 1) := by decide +kernel
theorem dX9_putNumber_87 : decode cX9_putNumber 87 = .ok (.dup, 1) := by decide +kernel
theorem dX9_putNumber_88 : decode cX9_putNumber 88 = .ok (.getfield 245, 3) := by decide +kernel
theorem dX9_putNumber_91 : decode cX9_putNumber 91 = .ok (.iconst 1, 1) := by decide +kernel
theorem dX9_putNumber_92 : decode cX9_putNumber 92 = .ok (.iadd, 1) := by decide +kernel
theorem dX9_putNumber_93 : decode cX9_putNumber 93 = .ok (.putfield 245, 3) := by decide +kernel
theorem dX9_putNumber_96 : decode cX9_putNumber 96 = .ok (.return_, 1) := by decide +kernel
theorem dX9_putOpen_0 : decode cX9_putOpen 0 = .ok (.aload_n 0, 1) := by decide +kernel
theorem dX9_putOpen_1 : decode cX9_putOpen 1 = .ok (.ldc 248, 2) := by decide +kernel
theorem dX9_putOpen_3 : decode cX9_putOpen 3 = .ok (.aload_n 0, 1) := by decide +kernel
theorem dX9_putOpen_4 : decode cX9_putOpen 4 = .ok (.getfield 238, 3) := by decide +kernel
theorem dX9_putOpen_7 : decode cX9_putOpen 7 = .ok (.ifCond .ne 7, 3) := by decide +kernel
theorem dX9_putOpen_10 : decode cX9_putOpen 10 = .ok (.iconst 1, 1) := by decide +kernel
theorem dX9_putOpen_11 : decode cX9_putOpen 11 = .ok (.goto 4, 3) := by decide +kernel
theorem dX9_putOpen_14 : decode cX9_putOpen 14 = .ok (.iconst 0, 1) := by decide +kernel
theorem dX9_putOpen_15 : decode cX9_putOpen 15 = .ok (.invokevirtual 241, 3) := by decide +kernel
theorem dX9_putOpen_18 : decode cX9_putOpen 18 = .ok (.aload_n 0, 1) := by decide +kernel
theorem dX9_putOpen_19 : decode cX9_putOpen 19 = .ok (.iconst 1, 1) := by decide +kernel
theorem dX9_putOpen_20 : decode cX9_putOpen 20 = .ok (.putfield 238, 3) := by decide +kernel
theorem dX9_putOpen_23 : decode cX9_putOpen 23 = .ok (.return_, 1) := by decide +kernel
theorem dX9_putCond_0 : decode cX9_putCond 0 = .ok (.aload_n 0, 1) := by decide +kernel
theorem dX9_putCond_1 : decode cX9_putCond 1 = .ok (.getfield 33, 3) := by decide +kernel
theorem dX9_putCond_4 : decode cX9_putCond 4 = .ok (.iload_n 1, 1) := by decide +kernel
theorem dX9_putCond_5 : decode cX9_putCond 5 = .ok (.aload_n 0, 1) := by decide +kernel
theorem dX9_putCond_6 : decode cX9_putCond 6 = .ok (.getfield 65, 3) := by decide +kernel
theorem dX9_putCond_9 : decode cX9_putCond 9 = .ok (.iadd, 1) := by decide +kernel
theorem dX9_putCond_10 : decode cX9_putCond 10 = .ok (.iaload, 1) := by decide +kernel
theorem dX9_putCond_11 : decode cX9_putCond 11 = .ok (.istore_n 3, 1) := by decide +kernel
theorem dX9_putCond_12 : decode cX9_putCond 12 = .ok (.aload_n 0, 1) := by decide +kernel
theorem dX9_putCond_13 : decode cX9_putCond 13 = .ok (.dup, 1) := by decide +kernel
theorem dX9_putCond_14 : decode cX9_putCond 14 = .ok (.getfield 65, 3) := by decide +kernel
theorem dX9_putCond_17 : decode cX9_putCond 17 = .ok (.iconst 1, 1) := by decide +kernel
theorem dX9_putCond_18 : decode cX9_putCond 18 = .ok (.iadd, 1) := by decide +kernel
theorem dX9_putCond_19 : decode cX9_putCond 19 = .ok (.putfield 65, 3) := by decide +kernel
theorem dX9_putCond_22 : decode cX9_putCond 22 = .ok (.iload_n 3, 1) := by decide +kernel
theorem dX9_putCond_23 : decode cX9_putCond 23 = .ok (.bipush 10, 2) := by decide +kernel
theorem dX9_putCond_25 : decode cX9_putCond 25 = .ok (.if_icmp .ge 15, 3) := by decide +kernel
theorem dX9_putCond_28 : decode cX9_putCond 28 = .ok (.aload_n 0, 1) := by decide +kernel
theorem dX9_putCond_29 : decode cX9_putCond 29 = .ok (.ldc 149, 2) := by decide +kernel
theorem dX9_putCond_31 : decode cX9_putCond 31 = .ok (.invokevirtual 250, 3) := by decide +kernel
theorem dX9_putCond_34 : decode cX9_putCond 34 = .ok (.aload_n 0, 1) := by decide +kernel
theorem dX9_putCond_35 : decode cX9_putCond 35 = .ok (.iload_n 3, 1) := by decide +kernel
theorem dX9_putCond_36 : decode cX9_putCond 36 = .ok (.invokevirtual 254, 3) := by decide +kernel
theorem dX9_putCond_39 : decode cX9_putCond 39 = .ok (.return_, 1) := by decide +kernel
theorem dX9_putCond_40 : decode cX9_putCond 40 = .ok (.iload_n 3, 1) := by decide +kernel
theorem dX9_putCond_41 : decode cX9_putCond 41 = .ok (.bipush 10, 2) := by decide +kernel
theorem dX9_putCond_43 : decode cX9_putCond 43 = .ok (.if_icmp .ne 17, 3) := by decide +kernel
theorem dX9_putCond_46 : decode cX9_putCond 46 = .ok (.aload_n 0, 1) := by decide +kernel
theorem dX9_putCond_47 : decode cX9_putCond 47 = .ok (.ldc 141, 2) := by decide +kernel
theorem dX9_putCond_49 : decode cX9_putCond 49 = .ok (.invokevirtual 250, 3) := by decide +kernel
theorem dX9_putCond_52 : decode cX9_putCond 52 = .ok (.aload_n 0, 1) := by decide +kernel
theorem dX9_putCond_53 : decode cX9_putCond 53 = .ok (.iload_n 1, 1) := by decide +kernel
theorem dX9_putCond_54 : decode cX9_putCond 54 = .ok (.bipush 10, 2) := by decide +kernel
theorem dX9_putCond_56 : decode cX9_putCond 56 = .ok (.invokevirtual 258, 3) := by decide +kernel
theorem dX9_putCond_59 : decode cX9_putCond 59 = .ok (.return_, 1) := by decide +kernel
theorem dX9_putCond_60 : decode cX9_putCond 60 = .ok (.iload_n 2, 1) := by decide +kernel
theorem dX9_putCond_61 : decode cX9_putCond 61 = .ok (.bipush 10, 2) := by decide +kernel
theorem dX9_putCond_63 : decode cX9_putCond 63 = .ok (.if_icmp .eq 17, 3) := by decide +kernel
theorem dX9_putCond_66 : decode cX9_putCond 66 = .ok (.iload_n 3, 1) := by decide +kernel
theorem dX9_putCond_67 : decode cX9_putCond 67 = .ok (.sipush 2000, 3) := by decide +kernel
theorem dX9_putCond_70 : decode cX9_putCond 70 = .ok (.if_icmp .lt 14, 3) := by decide +kernel
theorem dX9_putCond_73 : decode cX9_putCond 73 = .ok (.iload_n 2, 1) := by decide +kernel
theorem dX9_putCond_74 : decode cX9_putCond 74 = .ok (.sipush 1000, 3) := by decide +kernel
theorem dX9_putCond_77 : decode cX9_putCond 77 = .ok (.if_icmp .ne 7, 3) := by decide +kernel
theorem dX9_putCond_80 : decode cX9_putCond 80 = .ok (.iconst 1, 1) := by decide +kernel
theorem dX9_putCond_81 : decode cX9_putCond 81 = .ok (.goto 4, 3) := by decide +kernel
theorem dX9_putCond_84 : decode cX9_putCond 84 = .ok (.iconst 0, 1) := by decide +kernel
theorem dX9_putCond_85 : decode cX9_putCond 85 = .ok (.istore 4, 2) := by decide +kernel
theorem dX9_putCond_87 : decode cX9_putCond 87 = .ok (.iload_n 3, 1) := by decide +kernel
theorem dX9_putCond_88 : decode cX9_putCond 88 = .ok (.sipush 2000, 3) := by decide +kernel
theorem dX9_putCond_91 : decode cX9_putCond 91 = .ok (.if_icmp .lt 11, 3) := by decide +kernel
theorem dX9_putCond_94 : decode cX9_putCond 94 = .ok (.iload_n 3, 1) := by decide +kernel
theorem dX9_putCond_95 : decode cX9_putCond 95 = .ok (.sipush 2000, 3) := by decide +kernel
theorem dX9_putCond_98 : decode cX9_putCond 98 = .ok (.isub, 1) := by decide +kernel
theorem dX9_putCond_99 : decode cX9_putCond 99 = .ok (.goto 8, 3) := by decide +kernel
theorem dX9_putCond_102 : decode cX9_putCond 102 = .ok (.iload_n 3, 1) := by decide +kernel
theorem dX9_putCond_103 : decode cX9_putCond 103 = .ok (.sipush 1000, 3) := by decide +kernel
theorem dX9_putCond_106 : decode cX9_putCond 106 = .ok (.isub, 1) := by decide +kernel
theorem dX9_putCond_107 : decode cX9_putCond 107 = .ok (.istore 5, 2) := by decide +kernel
theorem dX9_putCond_109 : decode cX9_putCond 109 = .ok (.iload 4, 2) := by decide +kernel
theorem dX9_putCond_111 : decode cX9_putCond 111 = .ok (.ifCond .eq 7, 3) := by decide +kernel
theorem dX9_putCond_114 : decode cX9_putCond 114 = .ok (.aload_n 0, 1) := by decide +kernel
theorem dX9_putCond_115 : decode cX9_putCond 115 = .ok (.invokevirtual 261, 3) := by decide +kernel
theorem dX9_putCond_118 : decode cX9_putCond 118 = .ok (.iconst 0, 1) := by decide +kernel
theorem dX9_putCond_119 : decode cX9_putCond 119 = .ok (.istore 6, 2) := by decide +kernel
theorem dX9_putCond_121 : decode cX9_putCond 121 = .ok (.iload 6, 2) := by decide +kernel
theorem dX9_putCond_123 : decode cX9_putCond 123 = .ok (.iload 5, 2) := by decide +kernel
theorem dX9_putCond_125 : decode cX9_putCond 125 = .ok (.if_icmp .ge 53, 3) := by decide +kernel
theorem dX9_putCond_128 : decode cX9_putCond 128 = .ok (.iload 6, 2) := by decide +kernel
theorem dX9_putCond_130 : decode cX9_putCond 130 = .ok (.ifCond .le 21, 3) := by decide +kernel
theorem dX9_putCond_133 : decode cX9_putCond 133 = .ok (.aload_n 0, 1) := by decide +kernel
theorem dX9_putCond_134 : decode cX9_putCond 134 = .ok (.iload_n 3, 1) := by decide +kernel
theorem dX9_putCond_135 : decode cX9_putCond 135 = .ok (.sipush 2000, 3) := by decide +kernel
theorem dX9_putCond_138 : decode cX9_putCond 138 = .ok (.if_icmp .lt 8, 3) := by decide +kernel
theorem dX9_putCond_141 : decode cX9_putCond 141 = .ok (.ldc 159, 2) := by decide +kernel
theorem dX9_putCond_143 : decode cX9_putCond 143 = .ok (.goto 5, 3) := by decide +kernel
theorem dX9_putCond_146 : decode cX9_putCond 146 = .ok (.ldc 154, 2) := by decide +kernel
theorem dX9_putCond_148 : decode cX9_putCond 148 = .ok (.invokevirtual 250, 3) := by decide +kernel
theorem dX9_putCond_151 : decode cX9_putCond 151 = .ok (.aload_n 0, 1) := by decide +kernel
theorem dX9_putCond_152 : decode cX9_putCond 152 = .ok (.iload_n 1, 1) := by decide +kernel
theorem dX9_putCond_153 : decode cX9_putCond 153 = .ok (.iload_n 3, 1) := by decide +kernel
theorem dX9_putCond_154 : decode cX9_putCond 154 = .ok (.sipush 2000, 3) := by decide +kernel
theorem dX9_putCond_157 : decode cX9_putCond 157 = .ok (.if_icmp .lt 9, 3) := by decide +kernel
theorem dX9_putCond_160 : decode cX9_putCond 160 = .ok (.sipush 2000, 3) := by decide +kernel
theorem dX9_putCond_163 : decode cX9_putCond 163 = .ok (.goto 6, 3) := by decide +kernel
theorem dX9_putCond_166 : decode cX9_putCond 166 = .ok (.sipush 1000, 3) := by decide +kernel
theorem dX9_putCond_169 : decode cX9_putCond 169 = .ok (.invokevirtual 258, 3) := by decide +kernel
theorem dX9_putCond_172 : decode cX9_putCond 172 = .ok (.iinc 6 1, 3) := by decide +kernel
theorem dX9_putCond_175 : decode cX9_putCond 175 = .ok (.goto (-54), 3) := by decide +kernel
theorem dX9_putCond_178 : decode cX9_putCond 178 = .ok (.iload 4, 2) := by decide +kernel
theorem dX9_putCond_180 : decode cX9_putCond 180 = .ok (.ifCond .eq 11, 3) := by decide +kernel
theorem dX9_putCond_183 : decode cX9_putCond 183 = .ok (.aload_n 0, 1) := by decide +kernel
theorem dX9_putCond_184 : decode cX9_putCond 184 = .ok (.ldc_w 264, 3) := by decide +kernel
theorem dX9_putCond_187 : decode cX9_putCond 187 = .ok (.iconst 0, 1) := by decide +kernel
theorem dX9_putCond_188 : decode cX9_putCond 188 = .ok (.invokevirtual 241, 3) := by decide +kernel
theorem dX9_putCond_191 : decode cX9_putCond 191 = .ok (.return_, 1) := by decide +kernel
theorem dX9_putWho_0 : decode cX9_putWho 0 = .ok (.aload_n 0, 1) := by decide +kernel
theorem dX9_putWho_1 : decode cX9_putWho 1 = .ok (.iload_n 1, 1) := by decide +kernel
theorem dX9_putWho_2 : decode cX9_putWho 2 = .ok (.ifCond .ne 8, 3) := by decide +kernel
theorem dX9_putWho_5 : decode cX9_putWho 5 = .ok (.ldc 164, 2) := by decide +kernel
theorem dX9_putWho_7 : decode cX9_putWho 7 = .ok (.goto 15, 3) := by decide +kernel
theorem dX9_putWho_10 : decode cX9_putWho 10 = .ok (.iload_n 1, 1) := by decide +kernel
theorem dX9_putWho_11 : decode cX9_putWho 11 = .ok (.iconst 1, 1) := by decide +kernel
theorem dX9_putWho_12 : decode cX9_putWho 12 = .ok (.if_icmp .ne 8, 3) := by decide +kernel
theorem dX9_putWho_15 : decode cX9_putWho 15 = .ok (.ldc 166, 2) := by decide +kernel
theorem dX9_putWho_17 : decode cX9_putWho 17 = .ok (.goto 5, 3) := by decide +kernel
theorem dX9_putWho_20 : decode cX9_putWho 20 = .ok (.ldc 168, 2) := by decide +kernel
theorem dX9_putWho_22 : decode cX9_putWho 22 = .ok (.invokevirtual 250, 3) := by decide +kernel
theorem dX9_putWho_25 : decode cX9_putWho 25 = .ok (.return_, 1) := by decide +kernel
theorem dX9_putMode_0 : decode cX9_putMode 0 = .ok (.aload_n 0, 1) := by decide +kernel
theorem dX9_putMode_1 : decode cX9_putMode 1 = .ok (.aload_n 0, 1) := by decide +kernel
theorem dX9_putMode_2 : decode cX9_putMode 2 = .ok (.getfield 19, 3) := by decide +kernel
theorem dX9_putMode_5 : decode cX9_putMode 5 = .ok (.iload_n 1, 1) := by decide +kernel
theorem dX9_putMode_6 : decode cX9_putMode 6 = .ok (.iaload, 1) := by decide +kernel
theorem dX9_putMode_7 : decode cX9_putMode 7 = .ok (.iconst 2, 1) := by decide +kernel
theorem dX9_putMode_8 : decode cX9_putMode 8 = .ok (.if_icmp .ne 8, 3) := by decide +kernel
theorem dX9_putMode_11 : decode cX9_putMode 11 = .ok (.ldc 170, 2) := by decide +kernel
theorem dX9_putMode_13 : decode cX9_putMode 13 = .ok (.goto 5, 3) := by decide +kernel
theorem dX9_putMode_16 : decode cX9_putMode 16 = .ok (.ldc 172, 2) := by decide +kernel
theorem dX9_putMode_18 : decode cX9_putMode 18 = .ok (.invokevirtual 250, 3) := by decide +kernel
theorem dX9_putMode_21 : decode cX9_putMode 21 = .ok (.aload_n 0, 1) := by decide +kernel
theorem dX9_putMode_22 : decode cX9_putMode 22 = .ok (.getfield 19, 3) := by decide +kernel
theorem dX9_putMode_25 : decode cX9_putMode 25 = .ok (.iload_n 1, 1) := by decide +kernel
theorem dX9_putMode_26 : decode cX9_putMode 26 = .ok (.iaload, 1) := by decide +kernel
theorem dX9_putMode_27 : decode cX9_putMode 27 = .ok (.iconst 1, 1) := by decide +kernel
theorem dX9_putMode_28 : decode cX9_putMode 28 = .ok (.if_icmp .ne 9, 3) := by decide +kernel
theorem dX9_putMode_31 : decode cX9_putMode 31 = .ok (.aload_n 0, 1) := by decide +kernel
theorem dX9_putMode_32 : decode cX9_putMode 32 = .ok (.ldc 141, 2) := by decide +kernel
theorem dX9_putMode_34 : decode cX9_putMode 34 = .ok (.invokevirtual 250, 3) := by decide +kernel
theorem dX9_putMode_37 : decode cX9_putMode 37 = .ok (.return_, 1) := by decide +kernel
theorem dX9_putActs_0 : decode cX9_putActs 0 = .ok (.iconst 0, 1) := by decide +kernel
theorem dX9_putActs_1 : decode cX9_putActs 1 = .ok (.istore_n 2, 1) := by decide +kernel
theorem dX9_putActs_2 : decode cX9_putActs 2 = .ok (.iload_n 2, 1) := by decide +kernel
theorem dX9_putActs_3 : decode cX9_putActs 3 = .ok (.aload_n 0, 1) := by decide +kernel
theorem dX9_putActs_4 : decode cX9_putActs 4 = .ok (.getfield 9, 3) := by decide +kernel
theorem dX9_putActs_7 : decode cX9_putActs 7 = .ok (.iload_n 1, 1) := by decide +kernel
theorem dX9_putActs_8 : decode cX9_putActs 8 = .ok (.iaload, 1) := by decide +kernel
theorem dX9_putActs_9 : decode cX9_putActs 9 = .ok (.if_icmp .ge 39, 3) := by decide +kernel
theorem dX9_putActs_12 : decode cX9_putActs 12 = .ok (.iload_n 2, 1) := by decide +kernel
theorem dX9_putActs_13 : decode cX9_putActs 13 = .ok (.ifCond .le 9, 3) := by decide +kernel
theorem dX9_putActs_16 : decode cX9_putActs 16 = .ok (.aload_n 0, 1) := by decide +kernel
theorem dX9_putActs_17 : decode cX9_putActs 17 = .ok (.ldc 154, 2) := by decide +kernel
theorem dX9_putActs_19 : decode cX9_putActs 19 = .ok (.invokevirtual 250, 3) := by decide +kernel
theorem dX9_putActs_22 : decode cX9_putActs 22 = .ok (.aload_n 0, 1) := by decide +kernel
theorem dX9_putActs_23 : decode cX9_putActs 23 = .ok (.ldc 174, 2) := by decide +kernel
theorem dX9_putActs_25 : decode cX9_putActs 25 = .ok (.invokevirtual 250, 3) := by decide +kernel
theorem dX9_putActs_28 : decode cX9_putActs 28 = .ok (.aload_n 0, 1) := by decide +kernel
theorem dX9_putActs_29 : decode cX9_putActs 29 = .ok (.aload_n 0, 1) := by decide +kernel
theorem dX9_putActs_30 : decode cX9_putActs 30 = .ok (.getfield 13, 3) := by decide +kernel
theorem dX9_putActs_33 : decode cX9_putActs 33 = .ok (.iconst 3, 1) := by decide +kernel
theorem dX9_putActs_34 : decode cX9_putActs 34 = .ok (.iload_n 1, 1) := by decide +kernel
theorem dX9_putActs_35 : decode cX9_putActs 35 = .ok (.imul, 1) := by decide +kernel
theorem dX9_putActs_36 : decode cX9_putActs 36 = .ok (.iload_n 2, 1) := by decide +kernel
theorem dX9_putActs_37 : decode cX9_putActs 37 = .ok (.iadd, 1) := by decide +kernel
theorem dX9_putActs_38 : decode cX9_putActs 38 = .ok (.iaload, 1) := by decide +kernel
theorem dX9_putActs_39 : decode cX9_putActs 39 = .ok (.invokevirtual 254, 3) := by decide +kernel
theorem dX9_putActs_42 : decode cX9_putActs 42 = .ok (.iinc 2 1, 3) := by decide +kernel
theorem dX9_putActs_45 : decode cX9_putActs 45 = .ok (.goto (-43), 3) := by decide +kernel
theorem dX9_putActs_48 : decode cX9_putActs 48 = .ok (.return_, 1) := by decide +kernel
theorem dX9_putSentence_0 : decode cX9_putSentence 0 = .ok (.aload_n 0, 1) := by decide +kernel
theorem dX9_putSentence_1 : decode cX9_putSentence 1 = .ok (.iconst 0, 1) := by decide +kernel
theorem dX9_putSentence_2 : decode cX9_putSentence 2 = .ok (.putfield 245, 3) := by decide +kernel
theorem dX9_putSentence_5 : decode cX9_putSentence 5 = .ok (.aload_n 0, 1) := by decide +kernel
theorem dX9_putSentence_6 : decode cX9_putSentence 6 = .ok (.iconst 0, 1) := by decide +kernel
theorem dX9_putSentence_7 : decode cX9_putSentence 7 = .ok (.putfield 238, 3) := by decide +kernel
theorem dX9_putSentence_10 : decode cX9_putSentence 10 = .ok (.aload_n 0, 1) := by decide +kernel
theorem dX9_putSentence_11 : decode cX9_putSentence 11 = .ok (.getfield 29, 3) := by decide +kernel
theorem dX9_putSentence_14 : decode cX9_putSentence 14 = .ok (.iconst 2, 1) := by decide +kernel
theorem dX9_putSentence_15 : decode cX9_putSentence 15 = .ok (.iload_n 1, 1) := by decide +kernel
theorem dX9_putSentence_16 : decode cX9_putSentence 16 = .ok (.imul, 1) := by decide +kernel
theorem dX9_putSentence_17 : decode cX9_putSentence 17 = .ok (.iaload, 1) := by decide +kernel
theorem dX9_putSentence_18 : decode cX9_putSentence 18 = .ok (.ifCond .le 34, 3) := by decide +kernel
theorem dX9_putSentence_21 : decode cX9_putSentence 21 = .ok (.aload_n 0, 1) := by decide +kernel
theorem dX9_putSentence_22 : decode cX9_putSentence 22 = .ok (.ldc 191, 2) := by decide +kernel
theorem dX9_putSentence_24 : decode cX9_putSentence 24 = .ok (.invokevirtual 250, 3) := by decide +kernel
theorem dX9_putSentence_27 : decode cX9_putSentence 27 = .ok (.aload_n 0, 1) := by decide +kernel
theorem dX9_putSentence_28 : decode cX9_putSentence 28 = .ok (.iconst 0, 1) := by decide +kernel
theorem dX9_putSentence_29 : decode cX9_putSentence 29 = .ok (.putfield 65, 3) := by decide +kernel
theorem dX9_putSentence_32 : decode cX9_putSentence 32 = .ok (.aload_n 0, 1) := by decide +kernel
theorem dX9_putSentence_33 : decode cX9_putSentence 33 = .ok (.iconst 2, 1) := by decide +kernel
theorem dX9_putSentence_34 : decode cX9_putSentence 34 = .ok (.iload_n 1, 1) := by decide +kernel
theorem dX9_putSentence_35 : decode cX9_putSentence 35 = .ok (.imul, 1) := by decide +kernel
theorem dX9_putSentence_36 : decode cX9_putSentence 36 = .ok (.sipush 420, 3) := by decide +kernel
theorem dX9_putSentence_39 : decode cX9_putSentence 39 = .ok (.imul, 1) := by decide +kernel
theorem dX9_putSentence_40 : decode cX9_putSentence 40 = .ok (.iconst 0, 1) := by decide +kernel
theorem dX9_putSentence_41 : decode cX9_putSentence 41 = .ok (.invokevirtual 258, 3) := by decide +kernel
theorem dX9_putSentence_44 : decode cX9_putSentence 44 = .ok (.aload_n 0, 1) := by decide +kernel
theorem dX9_putSentence_45 : decode cX9_putSentence 45 = .ok (.ldc_w 266, 3) := by decide +kernel
theorem dX9_putSentence_48 : decode cX9_putSentence 48 = .ok (.iconst 0, 1) := by decide +kernel
theorem dX9_putSentence_49 : decode cX9_putSentence 49 = .ok (.invokevirtual 241, 3) := by decide +kernel
theorem dX9_putSentence_52 : decode cX9_putSentence 52 = .ok (.aload_n 0, 1) := by decide +kernel
theorem dX9_putSentence_53 : decode cX9_putSentence 53 = .ok (.getfield 25, 3) := by decide +kernel
theorem dX9_putSentence_56 : decode cX9_putSentence 56 = .ok (.iload_n 1, 1) := by decide +kernel
theorem dX9_putSentence_57 : decode cX9_putSentence 57 = .ok (.baload, 1) := by decide +kernel
theorem dX9_putSentence_58 : decode cX9_putSentence 58 = .ok (.ifCond .eq 54, 3) := by decide +kernel
theorem dX9_putSentence_61 : decode cX9_putSentence 61 = .ok (.aload_n 0, 1) := by decide +kernel
theorem dX9_putSentence_62 : decode cX9_putSentence 62 = .ok (.iload_n 1, 1) := by decide +kernel
theorem dX9_putSentence_63 : decode cX9_putSentence 63 = .ok (.invokevirtual 268, 3) := by decide +kernel
theorem dX9_putSentence_66 : decode cX9_putSentence 66 = .ok (.aload_n 0, 1) := by decide +kernel
theorem dX9_putSentence_67 : decode cX9_putSentence 67 = .ok (.iload_n 1, 1) := by decide +kernel
theorem dX9_putSentence_68 : decode cX9_putSentence 68 = .ok (.invokevirtual 271, 3) := by decide +kernel
theorem dX9_putSentence_71 : decode cX9_putSentence 71 = .ok (.aload_n 0, 1) := by decide +kernel
theorem dX9_putSentence_72 : decode cX9_putSentence 72 = .ok (.ldc 185, 2) := by decide +kernel
theorem dX9_putSentence_74 : decode cX9_putSentence 74 = .ok (.invokevirtual 250, 3) := by decide +kernel
theorem dX9_putSentence_77 : decode cX9_putSentence 77 = .ok (.aload_n 0, 1) := by decide +kernel
theorem dX9_putSentence_78 : decode cX9_putSentence 78 = .ok (.ldc 187, 2) := by decide +kernel
theorem dX9_putSentence_80 : decode cX9_putSentence 80 = .ok (.invokevirtual 250, 3) := by decide +kernel
theorem dX9_putSentence_83 : decode cX9_putSentence 83 = .ok (.aload_n 0, 1) := by decide +kernel
theorem dX9_putSentence_84 : decode cX9_putSentence 84 = .ok (.getfield 16, 3) := by decide +kernel
theorem dX9_putSentence_87 : decode cX9_putSentence 87 = .ok (.iload_n 1, 1) := by decide +kernel
theorem dX9_putSentence_88 : decode cX9_putSentence 88 = .ok (.iaload, 1) := by decide +kernel
theorem dX9_putSentence_89 : decode cX9_putSentence 89 = .ok (.iconst 3, 1) := by decide +kernel
theorem dX9_putSentence_90 : decode cX9_putSentence 90 = .ok (.if_icmp .ge 42, 3) := by decide +kernel
theorem dX9_putSentence_93 : decode cX9_putSentence 93 = .ok (.aload_n 0, 1) := by decide +kernel
theorem dX9_putSentence_94 : decode cX9_putSentence 94 = .ok (.ldc 189, 2) := by decide +kernel
theorem dX9_putSentence_96 : decode cX9_putSentence 96 = .ok (.invokevirtual 250, 3) := by decide +kernel
theorem dX9_putSentence_99 : decode cX9_putSentence 99 = .ok (.aload_n 0, 1) := by decide +kernel
theorem dX9_putSentence_100 : decode cX9_putSentence 100 = .ok (.aload_n 0, 1) := by decide +kernel
theorem dX9_putSentence_101 : decode cX9_putSentence 101 = .ok (.getfield 16, 3) := by decide +kernel
theorem dX9_putSentence_104 : decode cX9_putSentence 104 = .ok (.iload_n 1, 1) := by decide +kernel
theorem dX9_putSentence_105 : decode cX9_putSentence 105 = .ok (.iaload, 1) := by decide +kernel
theorem dX9_putSentence_106 : decode cX9_putSentence 106 = .ok (.invokevirtual 274, 3) := by decide +kernel
theorem dX9_putSentence_109 : decode cX9_putSentence 109 = .ok (.goto 23, 3) := by decide +kernel
theorem dX9_putSentence_112 : decode cX9_putSentence 112 = .ok (.aload_n 0, 1) := by decide +kernel
theorem dX9_putSentence_113 : decode cX9_putSentence 113 = .ok (.aload_n 0, 1) := by decide +kernel
theorem dX9_putSentence_114 : decode cX9_putSentence 114 = .ok (.getfield 16, 3) := by decide +kernel
theorem dX9_putSentence_117 : decode cX9_putSentence 117 = .ok (.iload_n 1, 1) := by decide +kernel
theorem dX9_putSentence_118 : decode cX9_putSentence 118 = .ok (.iaload, 1) := by decide +kernel
theorem dX9_putSentence_119 : decode cX9_putSentence 119 = .ok (.invokevirtual 274, 3) := by decide +kernel
theorem dX9_putSentence_122 : decode cX9_putSentence 122 = .ok (.aload_n 0, 1) := by decide +kernel
theorem dX9_putSentence_123 : decode cX9_putSentence 123 = .ok (.iload_n 1, 1) := by decide +kernel
theorem dX9_putSentence_124 : decode cX9_putSentence 124 = .ok (.invokevirtual 271, 3) := by decide +kernel
theorem dX9_putSentence_127 : decode cX9_putSentence 127 = .ok (.aload_n 0, 1) := by decide +kernel
theorem dX9_putSentence_128 : decode cX9_putSentence 128 = .ok (.iload_n 1, 1) := by decide +kernel
theorem dX9_putSentence_129 : decode cX9_putSentence 129 = .ok (.invokevirtual 268, 3) := by decide +kernel
theorem dX9_putSentence_132 : decode cX9_putSentence 132 = .ok (.aload_n 0, 1) := by decide +kernel
theorem dX9_putSentence_133 : decode cX9_putSentence 133 = .ok (.getfield 29, 3) := by decide +kernel
theorem dX9_putSentence_136 : decode cX9_putSentence 136 = .ok (.iconst 2, 1) := by decide +kernel
theorem dX9_putSentence_137 : decode cX9_putSentence 137 = .ok (.iload_n 1, 1) := by decide +kernel
theorem dX9_putSentence_138 : decode cX9_putSentence 138 = .ok (.imul, 1) := by decide +kernel
theorem dX9_putSentence_139 : decode cX9_putSentence 139 = .ok (.iconst 1, 1) := by decide +kernel
theorem dX9_putSentence_140 : decode cX9_putSentence 140 = .ok (.iadd, 1) := by decide +kernel
theorem dX9_putSentence_141 : decode cX9_putSentence 141 = .ok (.iaload, 1) := by decide +kernel
theorem dX9_putSentence_142 : decode cX9_putSentence 142 = .ok (.ifCond .le 28, 3) := by decide +kernel
theorem dX9_putSentence_145 : decode cX9_putSentence 145 = .ok (.aload_n 0, 1) := by decide +kernel
theorem dX9_putSentence_146 : decode cX9_putSentence 146 = .ok (.ldc 199, 2) := by decide +kernel
theorem dX9_putSentence_148 : decode cX9_putSentence 148 = .ok (.invokevirtual 250, 3) := by decide +kernel
theorem dX9_putSentence_151 : decode cX9_putSentence 151 = .ok (.aload_n 0, 1) := by decide +kernel
theorem dX9_putSentence_152 : decode cX9_putSentence 152 = .ok (.iconst 0, 1) := by decide +kernel
theorem dX9_putSentence_153 : decode cX9_putSentence 153 = .ok (.putfield 65, 3) := by decide +kernel
theorem dX9_putSentence_156 : decode cX9_putSentence 156 = .ok (.aload_n 0, 1) := by decide +kernel
theorem dX9_putSentence_157 : decode cX9_putSentence 157 = .ok (.iconst 2, 1) := by decide +kernel
theorem dX9_putSentence_158 : decode cX9_putSentence 158 = .ok (.iload_n 1, 1) := by decide +kernel
theorem dX9_putSentence_159 : decode cX9_putSentence 159 = .ok (.imul, 1) := by decide +kernel
theorem dX9_putSentence_160 : decode cX9_putSentence 160 = .ok (.iconst 1, 1) := by decide +kernel
theorem dX9_putSentence_161 : decode cX9_putSentence 161 = .ok (.iadd, 1) := by decide +kernel
theorem dX9_putSentence_162 : decode cX9_putSentence 162 = .ok (.sipush 420, 3) := by decide +kernel
theorem dX9_putSentence_165 : decode cX9_putSentence 165 = .ok (.imul, 1) := by decide +kernel
theorem dX9_putSentence_166 : decode cX9_putSentence 166 = .ok (.iconst 0, 1) := by decide +kernel
theorem dX9_putSentence_167 : decode cX9_putSentence 167 = .ok (.invokevirtual 258, 3) := by decide +kernel
theorem dX9_putSentence_170 : decode cX9_putSentence 170 = .ok (.aload_n 0, 1) := by decide +kernel
theorem dX9_putSentence_171 : decode cX9_putSentence 171 = .ok (.getfield 22, 3) := by decide +kernel
theorem dX9_putSentence_174 : decode cX9_putSentence 174 = .ok (.iload_n 1, 1) := by decide +kernel
theorem dX9_putSentence_175 : decode cX9_putSentence 175 = .ok (.iaload, 1) := by decide +kernel
theorem dX9_putSentence_176 : decode cX9_putSentence 176 = .ok (.ifCond .ge 4, 3) := by decide +kernel
theorem dX9_putSentence_179 : decode cX9_putSentence 179 = .ok (.return_, 1) := by decide +kernel
theorem dX9_putSentence_180 : decode cX9_putSentence 180 = .ok (.aload_n 0, 1) := by decide +kernel
theorem dX9_putSentence_181 : decode cX9_putSentence 181 = .ok (.ldc 201, 2) := by decide +kernel
theorem dX9_putSentence_183 : decode cX9_putSentence 183 = .ok (.invokevirtual 250, 3) := by decide +kernel
theorem dX9_putSentence_186 : decode cX9_putSentence 186 = .ok (.aload_n 0, 1) := by decide +kernel
theorem dX9_putSentence_187 : decode cX9_putSentence 187 = .ok (.aload_n 0, 1) := by decide +kernel
theorem dX9_putSentence_188 : decode cX9_putSentence 188 = .ok (.getfield 22, 3) := by decide +kernel
theorem dX9_putSentence_191 : decode cX9_putSentence 191 = .ok (.iload_n 1, 1) := by decide +kernel
theorem dX9_putSentence_192 : decode cX9_putSentence 192 = .ok (.iaload, 1) := by decide +kernel
theorem dX9_putSentence_193 : decode cX9_putSentence 193 = .ok (.invokevirtual 254, 3) := by decide +kernel
theorem dX9_putSentence_196 : decode cX9_putSentence 196 = .ok (.return_, 1) := by decide +kernel
theorem dX9_wordsOf_0 : decode cX9_wordsOf 0 = .ok (.aload_n 0, 1) := by decide +kernel
theorem dX9_wordsOf_1 : decode cX9_wordsOf 1 = .ok (.iconst 0, 1) := by decide +kernel
theorem dX9_wordsOf_2 : decode cX9_wordsOf 2 = .ok (.putfield 235, 3) := by decide +kernel
theorem dX9_wordsOf_5 : decode cX9_wordsOf 5 = .ok (.aload_n 0, 1) := by decide +kernel
theorem dX9_wordsOf_6 : decode cX9_wordsOf 6 = .ok (.iload_n 1, 1) := by decide +kernel
theorem dX9_wordsOf_7 : decode cX9_wordsOf 7 = .ok (.invokevirtual 277, 3) := by decide +kernel
theorem dX9_wordsOf_10 : decode cX9_wordsOf 10 = .ok (.aload_n 0, 1) := by decide +kernel
theorem dX9_wordsOf_11 : decode cX9_wordsOf 11 = .ok (.getfield 245, 3) := by decide +kernel
theorem dX9_wordsOf_14 : decode cX9_wordsOf 14 = .ok (.ireturn, 1) := by decide +kernel
theorem dX9_notsOf_0 : decode cX9_notsOf 0 = .ok (.iconst 0, 1) := by decide +kernel
theorem dX9_notsOf_1 : decode cX9_notsOf 1 = .ok (.istore_n 2, 1) := by decide +kernel
theorem dX9_notsOf_2 : decode cX9_notsOf 2 = .ok (.iconst 2, 1) := by decide +kernel
theorem dX9_notsOf_3 : decode cX9_notsOf 3 = .ok (.iload_n 1, 1) := by decide +kernel
theorem dX9_notsOf_4 : decode cX9_notsOf 4 = .ok (.imul, 1) := by decide +kernel
theorem dX9_notsOf_5 : decode cX9_notsOf 5 = .ok (.istore_n 3, 1) := by decide +kernel
theorem dX9_notsOf_6 : decode cX9_notsOf 6 = .ok (.iload_n 3, 1) := by decide +kernel
theorem dX9_notsOf_7 : decode cX9_notsOf 7 = .ok (.iconst 2, 1) := by decide +kernel
theorem dX9_notsOf_8 : decode cX9_notsOf 8 = .ok (.iload_n 1, 1) := by decide +kernel
theorem dX9_notsOf_9 : decode cX9_notsOf 9 = .ok (.imul, 1) := by decide +kernel
theorem dX9_notsOf_10 : decode cX9_notsOf 10 = .ok (.iconst 2, 1) := by decide +kernel
theorem dX9_notsOf_11 : decode cX9_notsOf 11 = .ok (.iadd, 1) := by decide +kernel
theorem dX9_notsOf_12 : decode cX9_notsOf 12 = .ok (.if_icmp .ge 59, 3) := by decide +kernel
theorem dX9_notsOf_15 : decode cX9_notsOf 15 = .ok (.iload_n 3, 1) := by decide +kernel
theorem dX9_notsOf_16 : decode cX9_notsOf 16 = .ok (.sipush 420, 3) := by decide +kernel
theorem dX9_notsOf_19 : decode cX9_notsOf 19 = .ok (.imul, 1) := by decide +kernel
theorem dX9_notsOf_20 : decode cX9_notsOf 20 = .ok (.istore 4, 2) := by decide +kernel
theorem dX9_notsOf_22 : decode cX9_notsOf 22 = .ok (.iload 4, 2) := by decide +kernel
theorem dX9_notsOf_24 : decode cX9_notsOf 24 = .ok (.iload_n 3, 1) := by decide +kernel
theorem dX9_notsOf_25 : decode cX9_notsOf 25 = .ok (.sipush 420, 3) := by decide +kernel
theorem dX9_notsOf_28 : decode cX9_notsOf 28 = .ok (.imul, 1) := by decide +kernel
theorem dX9_notsOf_29 : decode cX9_notsOf 29 = .ok (.aload_n 0, 1) := by decide +kernel
theorem dX9_notsOf_30 : decode cX9_notsOf 30 = .ok (.getfield 29, 3) := by decide +kernel
theorem dX9_notsOf_33 : decode cX9_notsOf 33 = .ok (.iload_n 3, 1) := by decide +kernel
theorem dX9_notsOf_34 : decode cX9_notsOf 34 = .ok (.iaload, 1) := by decide +kernel
theorem dX9_notsOf_35 : decode cX9_notsOf 35 = .ok (.iadd, 1) := by decide +kernel
theorem dX9_notsOf_36 : decode cX9_notsOf 36 = .ok (.if_icmp .ge 29, 3) := by decide +kernel
theorem dX9_notsOf_39 : decode cX9_notsOf 39 = .ok (.iload_n 2, 1) := by decide +kernel
theorem dX9_notsOf_40 : decode cX9_notsOf 40 = .ok (.aload_n 0, 1) := by decide +kernel
theorem dX9_notsOf_41 : decode cX9_notsOf 41 = .ok (.getfield 33, 3) := by decide +kernel
theorem dX9_notsOf_44 : decode cX9_notsOf 44 = .ok (.iload 4, 2) := by decide +kernel
theorem dX9_notsOf_46 : decode cX9_notsOf 46 = .ok (.iaload, 1) := by decide +kernel
theorem dX9_notsOf_47 : decode cX9_notsOf 47 = .ok (.bipush 10, 2) := by decide +kernel
theorem dX9_notsOf_49 : decode cX9_notsOf 49 = .ok (.if_icmp .ne 7, 3) := by decide +kernel
theorem dX9_notsOf_52 : decode cX9_notsOf 52 = .ok (.iconst 1, 1) := by decide +kernel
theorem dX9_notsOf_53 : decode cX9_notsOf 53 = .ok (.goto 4, 3) := by decide +kernel
theorem dX9_notsOf_56 : decode cX9_notsOf 56 = .ok (.iconst 0, 1) := by decide +kernel
theorem dX9_notsOf_57 : decode cX9_notsOf 57 = .ok (.iadd, 1) := by decide +kernel
theorem dX9_notsOf_58 : decode cX9_notsOf 58 = .ok (.istore_n 2, 1) := by decide +kernel
theorem dX9_notsOf_59 : decode cX9_notsOf 59 = .ok (.iinc 4 1, 3) := by decide +kernel
theorem dX9_notsOf_62 : decode cX9_notsOf 62 = .ok (.goto (-40), 3) := by decide +kernel
theorem dX9_notsOf_65 : decode cX9_notsOf 65 = .ok (.iinc 3 1, 3) := by decide +kernel
theorem dX9_notsOf_68 : decode cX9_notsOf 68 = .ok (.goto (-62), 3) := by decide +kernel
theorem dX9_notsOf_71 : decode cX9_notsOf 71 = .ok (.iload_n 2, 1) := by decide +kernel
theorem dX9_notsOf_72 : decode cX9_notsOf 72 = .ok (.ireturn, 1) := by decide +kernel
theorem dX9_costOf_0 : decode cX9_costOf 0 = .ok (.aload_n 0, 1) := by decide +kernel
theorem dX9_costOf_1 : decode cX9_costOf 1 = .ok (.iload_n 1, 1) := by decide +kernel
theorem dX9_costOf_2 : decode cX9_costOf 2 = .ok (.invokevirtual 280, 3) := by decide +kernel
theorem dX9_costOf_5 : decode cX9_costOf 5 = .ok (.istore_n 2, 1) := by decide +kernel
theorem dX9_costOf_6 : decode cX9_costOf 6 = .ok (.iload_n 2, 1) := by decide +kernel
theorem dX9_costOf_7 : decode cX9_costOf 7 = .ok (.aload_n 0, 1) := by decide +kernel
theorem dX9_costOf_8 : decode cX9_costOf 8 = .ok (.getfield 25, 3) := by decide +kernel
theorem dX9_costOf_11 : decode cX9_costOf 11 = .ok (.iload_n 1, 1) := by decide +kernel
theorem dX9_costOf_12 : decode cX9_costOf 12 = .ok (.baload, 1) := by decide +kernel
theorem dX9_costOf_13 : decode cX9_costOf 13 = .ok (.ifCond .eq 7, 3) := by decide +kernel
theorem dX9_costOf_16 : decode cX9_costOf 16 = .ok (.iconst 3, 1) := by decide +kernel
theorem dX9_costOf_17 : decode cX9_costOf 17 = .ok (.goto 4, 3) := by decide +kernel
theorem dX9_costOf_20 : decode cX9_costOf 20 = .ok (.iconst 0, 1) := by decide +kernel
theorem dX9_costOf_21 : decode cX9_costOf 21 = .ok (.iadd, 1) := by decide +kernel
theorem dX9_costOf_22 : decode cX9_costOf 22 = .ok (.iconst 2, 1) := by decide +kernel
theorem dX9_costOf_23 : decode cX9_costOf 23 = .ok (.aload_n 0, 1) := by decide +kernel
theorem dX9_costOf_24 : decode cX9_costOf 24 = .ok (.iload_n 1, 1) := by decide +kernel
theorem dX9_costOf_25 : decode cX9_costOf 25 = .ok (.invokevirtual 283, 3) := by decide +kernel
theorem dX9_costOf_28 : decode cX9_costOf 28 = .ok (.imul, 1) := by decide +kernel
theorem dX9_costOf_29 : decode cX9_costOf 29 = .ok (.iadd, 1) := by decide +kernel
theorem dX9_costOf_30 : decode cX9_costOf 30 = .ok (.aload_n 0, 1) := by decide +kernel
theorem dX9_costOf_31 : decode cX9_costOf 31 = .ok (.getfield 29, 3) := by decide +kernel
theorem dX9_costOf_34 : decode cX9_costOf 34 = .ok (.iconst 2, 1) := by decide +kernel
theorem dX9_costOf_35 : decode cX9_costOf 35 = .ok (.iload_n 1, 1) := by decide +kernel
theorem dX9_costOf_36 : decode cX9_costOf 36 = .ok (.imul, 1) := by decide +kernel
theorem dX9_costOf_37 : decode cX9_costOf 37 = .ok (.iconst 1, 1) := by decide +kernel
theorem dX9_costOf_38 : decode cX9_costOf 38 = .ok (.iadd, 1) := by decide +kernel
theorem dX9_costOf_39 : decode cX9_costOf 39 = .ok (.iaload, 1) := by decide +kernel
theorem dX9_costOf_40 : decode cX9_costOf 40 = .ok (.ifCond .le 7, 3) := by decide +kernel
theorem dX9_costOf_43 : decode cX9_costOf 43 = .ok (.iconst 4, 1) := by decide +kernel
theorem dX9_costOf_44 : decode cX9_costOf 44 = .ok (.goto 4, 3) := by decide +kernel
theorem dX9_costOf_47 : decode cX9_costOf 47 = .ok (.iconst 0, 1) := by decide +kernel
theorem dX9_costOf_48 : decode cX9_costOf 48 = .ok (.iadd, 1) := by decide +kernel
theorem dX9_costOf_49 : decode cX9_costOf 49 = .ok (.iload_n 2, 1) := by decide +kernel
theorem dX9_costOf_50 : decode cX9_costOf 50 = .ok (.bipush 10, 2) := by decide +kernel
theorem dX9_costOf_52 : decode cX9_costOf 52 = .ok (.if_icmp .le 12, 3) := by decide +kernel
theorem dX9_costOf_55 : decode cX9_costOf 55 = .ok (.iconst 2, 1) := by decide +kernel
theorem dX9_costOf_56 : decode cX9_costOf 56 = .ok (.iload_n 2, 1) := by decide +kernel
theorem dX9_costOf_57 : decode cX9_costOf 57 = .ok (.bipush 10, 2) := by decide +kernel
theorem dX9_costOf_59 : decode cX9_costOf 59 = .ok (.isub, 1) := by decide +kernel
theorem dX9_costOf_60 : decode cX9_costOf 60 = .ok (.imul, 1) := by decide +kernel
theorem dX9_costOf_61 : decode cX9_costOf 61 = .ok (.goto 4, 3) := by decide +kernel
theorem dX9_costOf_64 : decode cX9_costOf 64 = .ok (.iconst 0, 1) := by decide +kernel
theorem dX9_costOf_65 : decode cX9_costOf 65 = .ok (.iadd, 1) := by decide +kernel
theorem dX9_costOf_66 : decode cX9_costOf 66 = .ok (.iconst 5, 1) := by decide +kernel
theorem dX9_costOf_67 : decode cX9_costOf 67 = .ok (.iadd, 1) := by decide +kernel
theorem dX9_costOf_68 : decode cX9_costOf 68 = .ok (.ireturn, 1) := by decide +kernel
theorem dX9_costOfAll_0 : decode cX9_costOfAll 0 = .ok (.iconst 0, 1) := by decide +kernel
theorem dX9_costOfAll_1 : decode cX9_costOfAll 1 = .ok (.istore_n 3, 1) := by decide +kernel
theorem dX9_costOfAll_2 : decode cX9_costOfAll 2 = .ok (.iload_n 1, 1) := by decide +kernel
theorem dX9_costOfAll_3 : decode cX9_costOfAll 3 = .ok (.istore 4, 2) := by decide +kernel
theorem dX9_costOfAll_5 : decode cX9_costOfAll 5 = .ok (.iload 4, 2) := by decide +kernel
theorem dX9_costOfAll_7 : decode cX9_costOfAll 7 = .ok (.iload_n 1, 1) := by decide +kernel
theorem dX9_costOfAll_8 : decode cX9_costOfAll 8 = .ok (.iload_n 2, 1) := by decide +kernel
theorem dX9_costOfAll_9 : decode cX9_costOfAll 9 = .ok (.iadd, 1) := by decide +kernel
theorem dX9_costOfAll_10 : decode cX9_costOfAll 10 = .ok (.if_icmp .ge 18, 3) := by decide +kernel
theorem dX9_costOfAll_13 : decode cX9_costOfAll 13 = .ok (.iload_n 3, 1) := by decide +kernel
theorem dX9_costOfAll_14 : decode cX9_costOfAll 14 = .ok (.aload_n 0, 1) := by decide +kernel
theorem dX9_costOfAll_15 : decode cX9_costOfAll 15 = .ok (.iload 4, 2) := by decide +kernel
theorem dX9_costOfAll_17 : decode cX9_costOfAll 17 = .ok (.invokevirtual 286, 3) := by decide +kernel
theorem dX9_costOfAll_20 : decode cX9_costOfAll 20 = .ok (.iadd, 1) := by decide +kernel
theorem dX9_costOfAll_21 : decode cX9_costOfAll 21 = .ok (.istore_n 3, 1) := by decide +kernel
theorem dX9_costOfAll_22 : decode cX9_costOfAll 22 = .ok (.iinc 4 1, 3) := by decide +kernel
theorem dX9_costOfAll_25 : decode cX9_costOfAll 25 = .ok (.goto (-20), 3) := by decide +kernel
theorem dX9_costOfAll_28 : decode cX9_costOfAll 28 = .ok (.iload_n 3, 1) := by decide +kernel
theorem dX9_costOfAll_29 : decode cX9_costOfAll 29 = .ok (.ireturn, 1) := by decide +kernel
theorem dX9_cost_0 : decode cX9_cost 0 = .ok (.aload_n 0, 1) := by decide +kernel
theorem dX9_cost_1 : decode cX9_cost 1 = .ok (.iconst 0, 1) := by decide +kernel
theorem dX9_cost_2 : decode cX9_cost 2 = .ok (.putfield 59, 3) := by decide +kernel
theorem dX9_cost_5 : decode cX9_cost 5 = .ok (.aload_n 0, 1) := by decide +kernel
theorem dX9_cost_6 : decode cX9_cost 6 = .ok (.aload_n 0, 1) := by decide +kernel
theorem dX9_cost_7 : decode cX9_cost 7 = .ok (.getfield 219, 3) := by decide +kernel
theorem dX9_cost_10 : decode cX9_cost 10 = .ok (.ifCond .ne 7, 3) := by decide +kernel
theorem dX9_cost_13 : decode cX9_cost 13 = .ok (.iconst 1, 1) := by decide +kernel
theorem dX9_cost_14 : decode cX9_cost 14 = .ok (.goto 4, 3) := by decide +kernel
theorem dX9_cost_17 : decode cX9_cost 17 = .ok (.iconst 0, 1) := by decide +kernel
theorem dX9_cost_18 : decode cX9_cost 18 = .ok (.iconst 1, 1) := by decide +kernel
theorem dX9_cost_19 : decode cX9_cost 19 = .ok (.invokevirtual 209, 3) := by decide +kernel
theorem dX9_cost_22 : decode cX9_cost 22 = .ok (.ifCond .eq 5, 3) := by decide +kernel
theorem dX9_cost_25 : decode cX9_cost 25 = .ok (.iconst 0, 1) := by decide +kernel
theorem dX9_cost_26 : decode cX9_cost 26 = .ok (.ireturn, 1) := by decide +kernel
theorem dX9_cost_27 : decode cX9_cost 27 = .ok (.iload_n 1, 1) := by decide +kernel
theorem dX9_cost_28 : decode cX9_cost 28 = .ok (.ifCond .eq 15, 3) := by decide +kernel
theorem dX9_cost_31 : decode cX9_cost 31 = .ok (.aload_n 0, 1) := by decide +kernel
theorem dX9_cost_32 : decode cX9_cost 32 = .ok (.iconst 0, 1) := by decide +kernel
theorem dX9_cost_33 : decode cX9_cost 33 = .ok (.aload_n 0, 1) := by decide +kernel
theorem dX9_cost_34 : decode cX9_cost 34 = .ok (.getfield 216, 3) := by decide +kernel
theorem dX9_cost_37 : decode cX9_cost 37 = .ok (.invokevirtual 289, 3) := by decide +kernel
theorem dX9_cost_40 : decode cX9_cost 40 = .ok (.goto 13, 3) := by decide +kernel
theorem dX9_cost_43 : decode cX9_cost 43 = .ok (.aload_n 0, 1) := by decide +kernel
theorem dX9_cost_44 : decode cX9_cost 44 = .ok (.bipush 24, 2) := by decide +kernel
theorem dX9_cost_46 : decode cX9_cost 46 = .ok (.aload_n 0, 1) := by decide +kernel
theorem dX9_cost_47 : decode cX9_cost 47 = .ok (.getfield 232, 3) := by decide +kernel
theorem dX9_cost_50 : decode cX9_cost 50 = .ok (.invokevirtual 289, 3) := by decide +kernel
theorem dX9_cost_53 : decode cX9_cost 53 = .ok (.ireturn, 1) := by decide +kernel
theorem dX9_write_0 : decode cX9_write 0 = .ok (.aload_n 0, 1) := by decide +kernel
theorem dX9_write_1 : decode cX9_write 1 = .ok (.iconst 0, 1) := by decide +kernel
theorem dX9_write_2 : decode cX9_write 2 = .ok (.putfield 59, 3) := by decide +kernel
theorem dX9_write_5 : decode cX9_write 5 = .ok (.aload_n 0, 1) := by decide +kernel
theorem dX9_write_6 : decode cX9_write 6 = .ok (.aload_n 0, 1) := by decide +kernel
theorem dX9_write_7 : decode cX9_write 7 = .ok (.getfield 219, 3) := by decide +kernel
theorem dX9_write_10 : decode cX9_write 10 = .ok (.ifCond .ne 7, 3) := by decide +kernel
theorem dX9_write_13 : decode cX9_write 13 = .ok (.iconst 1, 1) := by decide +kernel
theorem dX9_write_14 : decode cX9_write 14 = .ok (.goto 4, 3) := by decide +kernel
theorem dX9_write_17 : decode cX9_write 17 = .ok (.iconst 0, 1) := by decide +kernel
theorem dX9_write_18 : decode cX9_write 18 = .ok (.iconst 1, 1) := by decide +kernel
theorem dX9_write_19 : decode cX9_write 19 = .ok (.invokevirtual 209, 3) := by decide +kernel
theorem dX9_write_22 : decode cX9_write 22 = .ok (.ifCond .eq 5, 3) := by decide +kernel
theorem dX9_write_25 : decode cX9_write 25 = .ok (.iconst 0, 1) := by decide +kernel
theorem dX9_write_26 : decode cX9_write 26 = .ok (.ireturn, 1) := by decide +kernel
theorem dX9_write_27 : decode cX9_write 27 = .ok (.aload_n 0, 1) := by decide +kernel
theorem dX9_write_28 : decode cX9_write 28 = .ok (.iconst 0, 1) := by decide +kernel
theorem dX9_write_29 : decode cX9_write 29 = .ok (.putfield 235, 3) := by decide +kernel
theorem dX9_write_32 : decode cX9_write 32 = .ok (.iconst 0, 1) := by decide +kernel
theorem dX9_write_33 : decode cX9_write 33 = .ok (.istore_n 1, 1) := by decide +kernel
theorem dX9_write_34 : decode cX9_write 34 = .ok (.iload_n 1, 1) := by decide +kernel
theorem dX9_write_35 : decode cX9_write 35 = .ok (.aload_n 0, 1) := by decide +kernel
theorem dX9_write_36 : decode cX9_write 36 = .ok (.getfield 232, 3) := by decide +kernel
theorem dX9_write_39 : decode cX9_write 39 = .ok (.if_icmp .ge 29, 3) := by decide +kernel
theorem dX9_write_42 : decode cX9_write 42 = .ok (.iload_n 1, 1) := by decide +kernel
theorem dX9_write_43 : decode cX9_write 43 = .ok (.ifCond .le 11, 3) := by decide +kernel
theorem dX9_write_46 : decode cX9_write 46 = .ok (.aload_n 0, 1) := by decide +kernel
theorem dX9_write_47 : decode cX9_write 47 = .ok (.ldc_w 292, 3) := by decide +kernel
theorem dX9_write_50 : decode cX9_write 50 = .ok (.iconst 0, 1) := by decide +kernel
theorem dX9_write_51 : decode cX9_write 51 = .ok (.invokevirtual 241, 3) := by decide +kernel
theorem dX9_write_54 : decode cX9_write 54 = .ok (.aload_n 0, 1) := by decide +kernel
theorem dX9_write_55 : decode cX9_write 55 = .ok (.bipush 24, 2) := by decide +kernel
theorem dX9_write_57 : decode cX9_write 57 = .ok (.iload_n 1, 1) := by decide +kernel
theorem dX9_write_58 : decode cX9_write 58 = .ok (.iadd, 1) := by decide +kernel
theorem dX9_write_59 : decode cX9_write 59 = .ok (.invokevirtual 277, 3) := by decide +kernel
theorem dX9_write_62 : decode cX9_write 62 = .ok (.iinc 1 1, 3) := by decide +kernel
theorem dX9_write_65 : decode cX9_write 65 = .ok (.goto (-31), 3) := by decide +kernel
theorem dX9_write_68 : decode cX9_write 68 = .ok (.aload_n 0, 1) := by decide +kernel
theorem dX9_write_69 : decode cX9_write 69 = .ok (.getfield 235, 3) := by decide +kernel
theorem dX9_write_72 : decode cX9_write 72 = .ok (.sipush 400, 3) := by decide +kernel
theorem dX9_write_75 : decode cX9_write 75 = .ok (.if_icmp .le 5, 3) := by decide +kernel
theorem dX9_write_78 : decode cX9_write 78 = .ok (.iconst (-1), 1) := by decide +kernel
theorem dX9_write_79 : decode cX9_write 79 = .ok (.ireturn, 1) := by decide +kernel
theorem dX9_write_80 : decode cX9_write 80 = .ok (.iconst 0, 1) := by decide +kernel
theorem dX9_write_81 : decode cX9_write 81 = .ok (.istore_n 1, 1) := by decide +kernel
theorem dX9_write_82 : decode cX9_write 82 = .ok (.iload_n 1, 1) := by decide +kernel
theorem dX9_write_83 : decode cX9_write 83 = .ok (.aload_n 0, 1) := by decide +kernel
theorem dX9_write_84 : decode cX9_write 84 = .ok (.getfield 235, 3) := by decide +kernel
theorem dX9_write_87 : decode cX9_write 87 = .ok (.if_icmp .ge 21, 3) := by decide +kernel
theorem dX9_write_90 : decode cX9_write 90 = .ok (.aload_n 0, 1) := by decide +kernel
theorem dX9_write_91 : decode cX9_write 91 = .ok (.getfield 45, 3) := by decide +kernel
theorem dX9_write_94 : decode cX9_write 94 = .ok (.iload_n 1, 1) := by decide +kernel
theorem dX9_write_95 : decode cX9_write 95 = .ok (.aload_n 0, 1) := by decide +kernel
theorem dX9_write_96 : decode cX9_write 96 = .ok (.getfield 56, 3) := by decide +kernel
theorem dX9_write_99 : decode cX9_write 99 = .ok (.iload_n 1, 1) := by decide +kernel
theorem dX9_write_100 : decode cX9_write 100 = .ok (.baload, 1) := by decide +kernel
theorem dX9_write_101 : decode cX9_write 101 = .ok (.bastore, 1) := by decide +kernel
theorem dX9_write_102 : decode cX9_write 102 = .ok (.iinc 1 1, 3) := by decide +kernel
theorem dX9_write_105 : decode cX9_write 105 = .ok (.goto (-23), 3) := by decide +kernel
theorem dX9_write_108 : decode cX9_write 108 = .ok (.aload_n 0, 1) := by decide +kernel
theorem dX9_write_109 : decode cX9_write 109 = .ok (.aload_n 0, 1) := by decide +kernel
theorem dX9_write_110 : decode cX9_write 110 = .ok (.getfield 235, 3) := by decide +kernel
theorem dX9_write_113 : decode cX9_write 113 = .ok (.putfield 96, 3) := by decide +kernel
theorem dX9_write_116 : decode cX9_write 116 = .ok (.aload_n 0, 1) := by decide +kernel
theorem dX9_write_117 : decode cX9_write 117 = .ok (.getfield 96, 3) := by decide +kernel
theorem dX9_write_120 : decode cX9_write 120 = .ok (.ireturn, 1) := by decide +kernel
theorem dX9_taped_0 : decode cX9_taped 0 = .ok (.aload_n 0, 1) := by decide +kernel
theorem dX9_taped_1 : decode cX9_taped 1 = .ok (.iconst 0, 1) := by decide +kernel
theorem dX9_taped_2 : decode cX9_taped 2 = .ok (.putfield 59, 3) := by decide +kernel
theorem dX9_taped_5 : decode cX9_taped 5 = .ok (.iload_n 1, 1) := by decide +kernel
theorem dX9_taped_6 : decode cX9_taped 6 = .ok (.iconst 0, 1) := by decide +kernel
theorem dX9_taped_7 : decode cX9_taped 7 = .ok (.aload_n 0, 1) := by decide +kernel
theorem dX9_taped_8 : decode cX9_taped 8 = .ok (.getfield 96, 3) := by decide +kernel
theorem dX9_taped_11 : decode cX9_taped 11 = .ok (.iconst 1, 1) := by decide +kernel
theorem dX9_taped_12 : decode cX9_taped 12 = .ok (.isub, 1) := by decide +kernel
theorem dX9_taped_13 : decode cX9_taped 13 = .ok (.invokestatic 294, 3) := by decide +kernel
theorem dX9_taped_16 : decode cX9_taped 16 = .ok (.ifCond .eq 16, 3) := by decide +kernel
theorem dX9_taped_19 : decode cX9_taped 19 = .ok (.aload_n 0, 1) := by decide +kernel
theorem dX9_taped_20 : decode cX9_taped 20 = .ok (.getfield 45, 3) := by decide +kernel
theorem dX9_taped_23 : decode cX9_taped 23 = .ok (.iload_n 1, 1) := by decide +kernel
theorem dX9_taped_24 : decode cX9_taped 24 = .ok (.baload, 1) := by decide +kernel
theorem dX9_taped_25 : decode cX9_taped 25 = .ok (.sipush 255, 3) := by decide +kernel
theorem dX9_taped_28 : decode cX9_taped 28 = .ok (.iand, 1) := by decide +kernel
theorem dX9_taped_29 : decode cX9_taped 29 = .ok (.goto 4, 3) := by decide +kernel
theorem dX9_taped_32 : decode cX9_taped 32 = .ok (.iconst (-1), 1) := by decide +kernel
theorem dX9_taped_33 : decode cX9_taped 33 = .ok (.ireturn, 1) := by decide +kernel
theorem dX9_noSentence_0 : decode cX9_noSentence 0 = .ok (.iload_n 1, 1) := by decide +kernel
theorem dX9_noSentence_1 : decode cX9_noSentence 1 = .ok (.iconst 0, 1) := by decide +kernel
theorem dX9_noSentence_2 : decode cX9_noSentence 2 = .ok (.aload_n 0, 1) := by decide +kernel
theorem dX9_noSentence_3 : decode cX9_noSentence 3 = .ok (.getfield 232, 3) := by decide +kernel
theorem dX9_noSentence_6 : decode cX9_noSentence 6 = .ok (.iconst 1, 1) := by decide +kernel
theorem dX9_noSentence_7 : decode cX9_noSentence 7 = .ok (.isub, 1) := by decide +kernel
theorem dX9_noSentence_8 : decode cX9_noSentence 8 = .ok (.invokestatic 294, 3) := by decide +kernel
theorem dX9_noSentence_11 : decode cX9_noSentence 11 = .ok (.ifCond .ne 7, 3) := by decide +kernel
theorem dX9_noSentence_14 : decode cX9_noSentence 14 = .ok (.iconst 1, 1) := by decide +kernel
theorem dX9_noSentence_15 : decode cX9_noSentence 15 = .ok (.goto 4, 3) := by decide +kernel
theorem dX9_noSentence_18 : decode cX9_noSentence 18 = .ok (.iconst 0, 1) := by decide +kernel
theorem dX9_noSentence_19 : decode cX9_noSentence 19 = .ok (.ireturn, 1) := by decide +kernel
theorem dX9_refuses_0 : decode cX9_refuses 0 = .ok (.aload_n 0, 1) := by decide +kernel
theorem dX9_refuses_1 : decode cX9_refuses 1 = .ok (.aload_n 0, 1) := by decide +kernel
theorem dX9_refuses_2 : decode cX9_refuses 2 = .ok (.getfield 219, 3) := by decide +kernel
theorem dX9_refuses_5 : decode cX9_refuses 5 = .ok (.ifCond .ne 7, 3) := by decide +kernel
theorem dX9_refuses_8 : decode cX9_refuses 8 = .ok (.iconst 1, 1) := by decide +kernel
theorem dX9_refuses_9 : decode cX9_refuses 9 = .ok (.goto 4, 3) := by decide +kernel
theorem dX9_refuses_12 : decode cX9_refuses 12 = .ok (.iconst 0, 1) := by decide +kernel
theorem dX9_refuses_13 : decode cX9_refuses 13 = .ok (.iconst 1, 1) := by decide +kernel
theorem dX9_refuses_14 : decode cX9_refuses 14 = .ok (.invokevirtual 209, 3) := by decide +kernel
theorem dX9_refuses_17 : decode cX9_refuses 17 = .ok (.ifCond .ne 16, 3) := by decide +kernel
theorem dX9_refuses_20 : decode cX9_refuses 20 = .ok (.aload_n 0, 1) := by decide +kernel
theorem dX9_refuses_21 : decode cX9_refuses 21 = .ok (.aload_n 0, 1) := by decide +kernel
theorem dX9_refuses_22 : decode cX9_refuses 22 = .ok (.iload_n 1, 1) := by decide +kernel
theorem dX9_refuses_23 : decode cX9_refuses 23 = .ok (.invokevirtual 298, 3) := by decide +kernel
theorem dX9_refuses_26 : decode cX9_refuses 26 = .ok (.iconst 2, 1) := by decide +kernel
theorem dX9_refuses_27 : decode cX9_refuses 27 = .ok (.invokevirtual 209, 3) := by decide +kernel
theorem dX9_refuses_30 : decode cX9_refuses 30 = .ok (.ifCond .eq 7, 3) := by decide +kernel
theorem dX9_refuses_33 : decode cX9_refuses 33 = .ok (.iconst 1, 1) := by decide +kernel
theorem dX9_refuses_34 : decode cX9_refuses 34 = .ok (.goto 4, 3) := by decide +kernel
theorem dX9_refuses_37 : decode cX9_refuses 37 = .ok (.iconst 0, 1) := by decide +kernel
theorem dX9_refuses_38 : decode cX9_refuses 38 = .ok (.ireturn, 1) := by decide +kernel
theorem dX9_part_0 : decode cX9_part 0 = .ok (.aload_n 0, 1) := by decide +kernel
theorem dX9_part_1 : decode cX9_part 1 = .ok (.iconst 0, 1) := by decide +kernel
theorem dX9_part_2 : decode cX9_part 2 = .ok (.putfield 59, 3) := by decide +kernel
theorem dX9_part_5 : decode cX9_part 5 = .ok (.aload_n 0, 1) := by decide +kernel
theorem dX9_part_6 : decode cX9_part 6 = .ok (.iload_n 1, 1) := by decide +kernel
theorem dX9_part_7 : decode cX9_part 7 = .ok (.invokevirtual 301, 3) := by decide +kernel
theorem dX9_part_10 : decode cX9_part 10 = .ok (.ifCond .eq 5, 3) := by decide +kernel
theorem dX9_part_13 : decode cX9_part 13 = .ok (.iconst 0, 1) := by decide +kernel
theorem dX9_part_14 : decode cX9_part 14 = .ok (.ireturn, 1) := by decide +kernel
theorem dX9_part_15 : decode cX9_part 15 = .ok (.bipush 24, 2) := by decide +kernel
theorem dX9_part_17 : decode cX9_part 17 = .ok (.iload_n 1, 1) := by decide +kernel
theorem dX9_part_18 : decode cX9_part 18 = .ok (.iadd, 1) := by decide +kernel
theorem dX9_part_19 : decode cX9_part 19 = .ok (.istore_n 2, 1) := by decide +kernel
theorem dX9_part_20 : decode cX9_part 20 = .ok (.aload_n 0, 1) := by decide +kernel
theorem dX9_part_21 : decode cX9_part 21 = .ok (.getfield 9, 3) := by decide +kernel
theorem dX9_part_24 : decode cX9_part 24 = .ok (.iload_n 2, 1) := by decide +kernel
theorem dX9_part_25 : decode cX9_part 25 = .ok (.iaload, 1) := by decide +kernel
theorem dX9_part_26 : decode cX9_part 26 = .ok (.istore_n 3, 1) := by decide +kernel
theorem dX9_part_27 : decode cX9_part 27 = .ok (.iload_n 3, 1) := by decide +kernel
theorem dX9_part_28 : decode cX9_part 28 = .ok (.iconst 2, 1) := by decide +kernel
theorem dX9_part_29 : decode cX9_part 29 = .ok (.if_icmp .lt 16, 3) := by decide +kernel
theorem dX9_part_32 : decode cX9_part 32 = .ok (.aload_n 0, 1) := by decide +kernel
theorem dX9_part_33 : decode cX9_part 33 = .ok (.getfield 232, 3) := by decide +kernel
theorem dX9_part_36 : decode cX9_part 36 = .ok (.iload_n 3, 1) := by decide +kernel
theorem dX9_part_37 : decode cX9_part 37 = .ok (.iadd, 1) := by decide +kernel
theorem dX9_part_38 : decode cX9_part 38 = .ok (.iconst 1, 1) := by decide +kernel
theorem dX9_part_39 : decode cX9_part 39 = .ok (.isub, 1) := by decide +kernel
theorem dX9_part_40 : decode cX9_part 40 = .ok (.bipush 24, 2) := by decide +kernel
theorem dX9_part_42 : decode cX9_part 42 = .ok (.if_icmp .le 5, 3) := by decide +kernel
theorem dX9_part_45 : decode cX9_part 45 = .ok (.iconst 0, 1) := by decide +kernel
theorem dX9_part_46 : decode cX9_part 46 = .ok (.ireturn, 1) := by decide +kernel
theorem dX9_part_47 : decode cX9_part 47 = .ok (.aload_n 0, 1) := by decide +kernel
theorem dX9_part_48 : decode cX9_part 48 = .ok (.getfield 232, 3) := by decide +kernel
theorem dX9_part_51 : decode cX9_part 51 = .ok (.iconst 1, 1) := by decide +kernel
theorem dX9_part_52 : decode cX9_part 52 = .ok (.isub, 1) := by decide +kernel
theorem dX9_part_53 : decode cX9_part 53 = .ok (.istore 4, 2) := by decide +kernel
theorem dX9_part_55 : decode cX9_part 55 = .ok (.iload 4, 2) := by decide +kernel
theorem dX9_part_57 : decode cX9_part 57 = .ok (.iload_n 1, 1) := by decide +kernel
theorem dX9_part_58 : decode cX9_part 58 = .ok (.if_icmp .le 27, 3) := by decide +kernel
theorem dX9_part_61 : decode cX9_part 61 = .ok (.aload_n 0, 1) := by decide +kernel
theorem dX9_part_62 : decode cX9_part 62 = .ok (.bipush 24, 2) := by decide +kernel
theorem dX9_part_64 : decode cX9_part 64 = .ok (.iload 4, 2) := by decide +kernel
theorem dX9_part_66 : decode cX9_part 66 = .ok (.iadd, 1) := by decide +kernel
theorem dX9_part_67 : decode cX9_part 67 = .ok (.bipush 24, 2) := by decide +kernel
theorem dX9_part_69 : decode cX9_part 69 = .ok (.iload 4, 2) := by decide +kernel
theorem dX9_part_71 : decode cX9_part 71 = .ok (.iadd, 1) := by decide +kernel
theorem dX9_part_72 : decode cX9_part 72 = .ok (.iload_n 3, 1) := by decide +kernel
theorem dX9_part_73 : decode cX9_part 73 = .ok (.iadd, 1) := by decide +kernel
theorem dX9_part_74 : decode cX9_part 74 = .ok (.iconst 1, 1) := by decide +kernel
theorem dX9_part_75 : decode cX9_part 75 = .ok (.isub, 1) := by decide +kernel
theorem dX9_part_76 : decode cX9_part 76 = .ok (.invokevirtual 213, 3) := by decide +kernel
theorem dX9_part_79 : decode cX9_part 79 = .ok (.iinc 4 (-1), 3) := by decide +kernel
theorem dX9_part_82 : decode cX9_part 82 = .ok (.goto (-27), 3) := by decide +kernel
theorem dX9_part_85 : decode cX9_part 85 = .ok (.iload_n 3, 1) := by decide +kernel
theorem dX9_part_86 : decode cX9_part 86 = .ok (.iconst 1, 1) := by decide +kernel
theorem dX9_part_87 : decode cX9_part 87 = .ok (.isub, 1) := by decide +kernel
theorem dX9_part_88 : decode cX9_part 88 = .ok (.istore 4, 2) := by decide +kernel
theorem dX9_part_90 : decode cX9_part 90 = .ok (.iload 4, 2) := by decide +kernel
theorem dX9_part_92 : decode cX9_part 92 = .ok (.ifCond .lt 55, 3) := by decide +kernel
theorem dX9_part_95 : decode cX9_part 95 = .ok (.iload 4, 2) := by decide +kernel
theorem dX9_part_97 : decode cX9_part 97 = .ok (.ifCond .le 12, 3) := by decide +kernel
theorem dX9_part_100 : decode cX9_part 100 = .ok (.aload_n 0, 1) := by decide +kernel
theorem dX9_part_101 : decode cX9_part 101 = .ok (.iload_n 2, 1) := by decide +kernel
theorem dX9_part_102 : decode cX9_part 102 = .ok (.iload_n 2, 1) := by decide +kernel
theorem dX9_part_103 : decode cX9_part 103 = .ok (.iload 4, 2) := by decide +kernel
theorem dX9_part_105 : decode cX9_part 105 = .ok (.iadd, 1) := by decide +kernel
theorem dX9_part_106 : decode cX9_part 106 = .ok (.invokevirtual 213, 3) := by decide +kernel
theorem dX9_part_109 : decode cX9_part 109 = .ok (.aload_n 0, 1) := by decide +kernel
theorem dX9_part_110 : decode cX9_part 110 = .ok (.getfield 13, 3) := by decide +kernel
theorem dX9_part_113 : decode cX9_part 113 = .ok (.iconst 3, 1) := by decide +kernel
theorem dX9_part_114 : decode cX9_part 114 = .ok (.iload_n 2, 1) := by decide +kernel
theorem dX9_part_115 : decode cX9_part 115 = .ok (.iload 4, 2) := by decide +kernel
theorem dX9_part_117 : decode cX9_part 117 = .ok (.iadd, 1) := by decide +kernel
theorem dX9_part_118 : decode cX9_part 118 = .ok (.imul, 1) := by decide +kernel
theorem dX9_part_119 : decode cX9_part 119 = .ok (.aload_n 0, 1) := by decide +kernel
theorem dX9_part_120 : decode cX9_part 120 = .ok (.getfield 13, 3) := by decide +kernel
theorem dX9_part_123 : decode cX9_part 123 = .ok (.iconst 3, 1) := by decide +kernel
theorem dX9_part_124 : decode cX9_part 124 = .ok (.iload_n 2, 1) := by decide +kernel
theorem dX9_part_125 : decode cX9_part 125 = .ok (.imul, 1) := by decide +kernel
theorem dX9_part_126 : decode cX9_part 126 = .ok (.iload 4, 2) := by decide +kernel
theorem dX9_part_128 : decode cX9_part 128 = .ok (.iadd, 1) := by decide +kernel
theorem dX9_part_129 : decode cX9_part 129 = .ok (.iaload, 1) := by decide +kernel
theorem dX9_part_130 : decode cX9_part 130 = .ok (.iastore, 1) := by decide +kernel
theorem dX9_part_131 : decode cX9_part 131 = .ok (.aload_n 0, 1) := by decide +kernel
theorem dX9_part_132 : decode cX9_part 132 = .ok (.getfield 9, 3) := by decide +kernel
theorem dX9_part_135 : decode cX9_part 135 = .ok (.iload_n 2, 1) := by decide +kernel
theorem dX9_part_136 : decode cX9_part 136 = .ok (.iload 4, 2) := by decide +kernel
theorem dX9_part_138 : decode cX9_part 138 = .ok (.iadd, 1) := by decide +kernel
theorem dX9_part_139 : decode cX9_part 139 = .ok (.iconst 1, 1) := by decide +kernel
theorem dX9_part_140 : decode cX9_part 140 = .ok (.iastore, 1) := by decide +kernel
theorem dX9_part_141 : decode cX9_part 141 = .ok (.iinc 4 (-1), 3) := by decide +kernel
theorem dX9_part_144 : decode cX9_part 144 = .ok (.goto (-54), 3) := by decide +kernel
theorem dX9_part_147 : decode cX9_part 147 = .ok (.aload_n 0, 1) := by decide +kernel
theorem dX9_part_148 : decode cX9_part 148 = .ok (.dup, 1) := by decide +kernel
theorem dX9_part_149 : decode cX9_part 149 = .ok (.getfield 232, 3) := by decide +kernel
theorem dX9_part_152 : decode cX9_part 152 = .ok (.iload_n 3, 1) := by decide +kernel
theorem dX9_part_153 : decode cX9_part 153 = .ok (.iconst 1, 1) := by decide +kernel
theorem dX9_part_154 : decode cX9_part 154 = .ok (.isub, 1) := by decide +kernel
theorem dX9_part_155 : decode cX9_part 155 = .ok (.iadd, 1) := by decide +kernel
theorem dX9_part_156 : decode cX9_part 156 = .ok (.putfield 232, 3) := by decide +kernel
theorem dX9_part_159 : decode cX9_part 159 = .ok (.aload_n 0, 1) := by decide +kernel
theorem dX9_part_160 : decode cX9_part 160 = .ok (.dup, 1) := by decide +kernel
theorem dX9_part_161 : decode cX9_part 161 = .ok (.getfield 226, 3) := by decide +kernel
theorem dX9_part_164 : decode cX9_part 164 = .ok (.iconst 1, 1) := by decide +kernel
theorem dX9_part_165 : decode cX9_part 165 = .ok (.iadd, 1) := by decide +kernel
theorem dX9_part_166 : decode cX9_part 166 = .ok (.putfield 226, 3) := by decide +kernel
theorem dX9_part_169 : decode cX9_part 169 = .ok (.iconst 1, 1) := by decide +kernel
theorem dX9_part_170 : decode cX9_part 170 = .ok (.ireturn, 1) := by decide +kernel
theorem dX9_areAlike_0 : decode cX9_areAlike 0 = .ok (.aload_n 0, 1) := by decide +kernel
theorem dX9_areAlike_1 : decode cX9_areAlike 1 = .ok (.getfield 16, 3) := by decide +kernel
theorem dX9_areAlike_4 : decode cX9_areAlike 4 = .ok (.iload_n 1, 1) := by decide +kernel
theorem dX9_areAlike_5 : decode cX9_areAlike 5 = .ok (.iaload, 1) := by decide +kernel
theorem dX9_areAlike_6 : decode cX9_areAlike 6 = .ok (.aload_n 0, 1) := by decide +kernel
theorem dX9_areAlike_7 : decode cX9_areAlike 7 = .ok (.getfield 16, 3) := by decide +kernel
theorem dX9_areAlike_10 : decode cX9_areAlike 10 = .ok (.iload_n 2, 1) := by decide +kernel
theorem dX9_areAlike_11 : decode cX9_areAlike 11 = .ok (.iaload, 1) := by decide +kernel
theorem dX9_areAlike_12 : decode cX9_areAlike 12 = .ok (.if_icmp .ne 52, 3) := by decide +kernel
theorem dX9_areAlike_15 : decode cX9_areAlike 15 = .ok (.aload_n 0, 1) := by decide +kernel
theorem dX9_areAlike_16 : decode cX9_areAlike 16 = .ok (.getfield 19, 3) := by decide +kernel
theorem dX9_areAlike_19 : decode cX9_areAlike 19 = .ok (.iload_n 1, 1) := by decide +kernel
theorem dX9_areAlike_20 : decode cX9_areAlike 20 = .ok (.iaload, 1) := by decide +kernel
theorem dX9_areAlike_21 : decode cX9_areAlike 21 = .ok (.aload_n 0, 1) := by decide +kernel
theorem dX9_areAlike_22 : decode cX9_areAlike 22 = .ok (.getfield 19, 3) := by decide +kernel
theorem dX9_areAlike_25 : decode cX9_areAlike 25 = .ok (.iload_n 2, 1) := by decide +kernel
theorem dX9_areAlike_26 : decode cX9_areAlike 26 = .ok (.iaload, 1) := by decide +kernel
theorem dX9_areAlike_27 : decode cX9_areAlike 27 = .ok (.if_icmp .ne 37, 3) := by decide +kernel
theorem dX9_areAlike_30 : decode cX9_areAlike 30 = .ok (.aload_n 0, 1) := by decide +kernel
theorem dX9_areAlike_31 : decode cX9_areAlike 31 = .ok (.getfield 22, 3) := by decide +kernel
theorem dX9_areAlike_34 : decode cX9_areAlike 34 = .ok (.iload_n 1, 1) := by decide +kernel
theorem dX9_areAlike_35 : decode cX9_areAlike 35 = .ok (.iaload, 1) := by decide +kernel
theorem dX9_areAlike_36 : decode cX9_areAlike 36 = .ok (.aload_n 0, 1) := by decide +kernel
theorem dX9_areAlike_37 : decode cX9_areAlike 37 = .ok (.getfield 22, 3) := by decide +kernel
theorem dX9_areAlike_40 : decode cX9_areAlike 40 = .ok (.iload_n 2, 1) := by decide +kernel
theorem dX9_areAlike_41 : decode cX9_areAlike 41 = .ok (.iaload, 1) := by decide +kernel
theorem dX9_areAlike_42 : decode cX9_areAlike 42 = .ok (.if_icmp .ne 22, 3) := by decide +kernel
theorem dX9_areAlike_45 : decode cX9_areAlike 45 = .ok (.aload_n 0, 1) := by decide +kernel
theorem dX9_areAlike_46 : decode cX9_areAlike 46 = .ok (.getfield 25, 3) := by decide +kernel
theorem dX9_areAlike_49 : decode cX9_areAlike 49 = .ok (.iload_n 1, 1) := by decide +kernel
theorem dX9_areAlike_50 : decode cX9_areAlike 50 = .ok (.baload, 1) := by decide +kernel
theorem dX9_areAlike_51 : decode cX9_areAlike 51 = .ok (.aload_n 0, 1) := by decide +kernel
theorem dX9_areAlike_52 : decode cX9_areAlike 52 = .ok (.getfield 25, 3) := by decide +kernel
theorem dX9_areAlike_55 : decode cX9_areAlike 55 = .ok (.iload_n 2, 1) := by decide +kernel
theorem dX9_areAlike_56 : decode cX9_areAlike 56 = .ok (.baload, 1) := by decide +kernel
theorem dX9_areAlike_57 : decode cX9_areAlike 57 = .ok (.if_icmp .ne 7, 3) := by decide +kernel
theorem dX9_areAlike_60 : decode cX9_areAlike 60 = .ok (.iconst 1, 1) := by decide +kernel
theorem dX9_areAlike_61 : decode cX9_areAlike 61 = .ok (.goto 4, 3) := by decide +kernel
theorem dX9_areAlike_64 : decode cX9_areAlike 64 = .ok (.iconst 0, 1) := by decide +kernel
theorem dX9_areAlike_65 : decode cX9_areAlike 65 = .ok (.istore_n 3, 1) := by decide +kernel
theorem dX9_areAlike_66 : decode cX9_areAlike 66 = .ok (.iconst 0, 1) := by decide +kernel
theorem dX9_areAlike_67 : decode cX9_areAlike 67 = .ok (.istore 4, 2) := by decide +kernel
theorem dX9_areAlike_69 : decode cX9_areAlike 69 = .ok (.iload 4, 2) := by decide +kernel
theorem dX9_areAlike_71 : decode cX9_areAlike 71 = .ok (.iconst 2, 1) := by decide +kernel
theorem dX9_areAlike_72 : decode cX9_areAlike 72 = .ok (.if_icmp .ge 118, 3) := by decide +kernel
theorem dX9_areAlike_75 : decode cX9_areAlike 75 = .ok (.iload_n 3, 1) := by decide +kernel
theorem dX9_areAlike_76 : decode cX9_areAlike 76 = .ok (.ifCond .eq 114, 3) := by decide +kernel
theorem dX9_areAlike_79 : decode cX9_areAlike 79 = .ok (.aload_n 0, 1) := by decide +kernel
theorem dX9_areAlike_80 : decode cX9_areAlike 80 = .ok (.getfield 29, 3) := by decide +kernel
theorem dX9_areAlike_83 : decode cX9_areAlike 83 = .ok (.iconst 2, 1) := by decide +kernel
theorem dX9_areAlike_84 : decode cX9_areAlike 84 = .ok (.iload_n 1, 1) := by decide +kernel
theorem dX9_areAlike_85 : decode cX9_areAlike 85 = .ok (.imul, 1) := by decide +kernel
theorem dX9_areAlike_86 : decode cX9_areAlike 86 = .ok (.iload 4, 2) := by decide +kernel
theorem dX9_areAlike_88 : decode cX9_areAlike 88 = .ok (.iadd, 1) := by decide +kernel
theorem dX9_areAlike_89 : decode cX9_areAlike 89 = .ok (.iaload, 1) := by decide +kernel
theorem dX9_areAlike_90 : decode cX9_areAlike 90 = .ok (.aload_n 0, 1) := by decide +kernel
theorem dX9_areAlike_91 : decode cX9_areAlike 91 = .ok (.getfield 29, 3) := by decide +kernel
theorem dX9_areAlike_94 : decode cX9_areAlike 94 = .ok (.iconst 2, 1) := by decide +kernel
theorem dX9_areAlike_95 : decode cX9_areAlike 95 = .ok (.iload_n 2, 1) := by decide +kernel
theorem dX9_areAlike_96 : decode cX9_areAlike 96 = .ok (.imul, 1) := by decide +kernel
theorem dX9_areAlike_97 : decode cX9_areAlike 97 = .ok (.iload 4, 2) := by decide +kernel
theorem dX9_areAlike_99 : decode cX9_areAlike 99 = .ok (.iadd, 1) := by decide +kernel
theorem dX9_areAlike_100 : decode cX9_areAlike 100 = .ok (.iaload, 1) := by decide +kernel
theorem dX9_areAlike_101 : decode cX9_areAlike 101 = .ok (.if_icmp .ne 7, 3) := by decide +kernel
theorem dX9_areAlike_104 : decode cX9_areAlike 104 = .ok (.iconst 1, 1) := by decide +kernel
theorem dX9_areAlike_105 : decode cX9_areAlike 105 = .ok (.goto 4, 3) := by decide +kernel
theorem dX9_areAlike_108 : decode cX9_areAlike 108 = .ok (.iconst 0, 1) := by decide +kernel
theorem dX9_areAlike_109 : decode cX9_areAlike 109 = .ok (.istore_n 3, 1) := by decide +kernel
theorem dX9_areAlike_110 : decode cX9_areAlike 110 = .ok (.iconst 0, 1) := by decide +kernel
theorem dX9_areAlike_111 : decode cX9_areAlike 111 = .ok (.istore 5, 2) := by decide +kernel
theorem dX9_areAlike_113 : decode cX9_areAlike 113 = .ok (.iload 5, 2) := by decide +kernel
theorem dX9_areAlike_115 : decode cX9_areAlike 115 = .ok (.aload_n 0, 1) := by decide +kernel
theorem dX9_areAlike_116 : decode cX9_areAlike 116 = .ok (.getfield 29, 3) := by decide +kernel
theorem dX9_areAlike_119 : decode cX9_areAlike 119 = .ok (.iconst 2, 1) := by decide +kernel
theorem dX9_areAlike_120 : decode cX9_areAlike 120 = .ok (.iload_n 1, 1) := by decide +kernel
theorem dX9_areAlike_121 : decode cX9_areAlike 121 = .ok (.imul, 1) := by decide +kernel
theorem dX9_areAlike_122 : decode cX9_areAlike 122 = .ok (.iload 4, 2) := by decide +kernel
theorem dX9_areAlike_124 : decode cX9_areAlike 124 = .ok (.iadd, 1) := by decide +kernel
theorem dX9_areAlike_125 : decode cX9_areAlike 125 = .ok (.iaload, 1) := by decide +kernel
theorem dX9_areAlike_126 : decode cX9_areAlike 126 = .ok (.if_icmp .ge 58, 3) := by decide +kernel
theorem dX9_areAlike_129 : decode cX9_areAlike 129 = .ok (.iload_n 3, 1) := by decide +kernel
theorem dX9_areAlike_130 : decode cX9_areAlike 130 = .ok (.ifCond .eq 54, 3) := by decide +kernel
theorem dX9_areAlike_133 : decode cX9_areAlike 133 = .ok (.aload_n 0, 1) := by decide +kernel
theorem dX9_areAlike_134 : decode cX9_areAlike 134 = .ok (.getfield 33, 3) := by decide +kernel
theorem dX9_areAlike_137 : decode cX9_areAlike 137 = .ok (.iconst 2, 1) := by decide +kernel
theorem dX9_areAlike_138 : decode cX9_areAlike 138 = .ok (.iload_n 1, 1) := by decide +kernel
theorem dX9_areAlike_139 : decode cX9_areAlike 139 = .ok (.imul, 1) := by decide +kernel
theorem dX9_areAlike_140 : decode cX9_areAlike 140 = .ok (.iload 4, 2) := by decide +kernel
theorem dX9_areAlike_142 : decode cX9_areAlike 142 = .ok (.iadd, 1) := by decide +kernel
theorem dX9_areAlike_143 : decode cX9_areAlike 143 = .ok (.sipush 420, 3) := by decide +kernel
theorem dX9_areAlike_146 : decode cX9_areAlike 146 = .ok (.imul, 1) := by decide +kernel
theorem dX9_areAlike_147 : decode cX9_areAlike 147 = .ok (.iload 5, 2) := by decide +kernel
theorem dX9_areAlike_149 : decode cX9_areAlike 149 = .ok (.iadd, 1) := by decide +kernel
theorem dX9_areAlike_150 : decode cX9_areAlike 150 = .ok (.iaload, 1) := by decide +kernel
theorem dX9_areAlike_151 : decode cX9_areAlike 151 = .ok (.aload_n 0, 1) := by decide +kernel
theorem dX9_areAlike_152 : decode cX9_areAlike 152 = .ok (.getfield 33, 3) := by decide +kernel
theorem dX9_areAlike_155 : decode cX9_areAlike 155 = .ok (.iconst 2, 1) := by decide +kernel
theorem dX9_areAlike_156 : decode cX9_areAlike 156 = .ok (.iload_n 2, 1) := by decide +kernel
theorem dX9_areAlike_157 : decode cX9_areAlike 157 = .ok (.imul, 1) := by decide +kernel
theorem dX9_areAlike_158 : decode cX9_areAlike 158 = .ok (.iload 4, 2) := by decide +kernel
theorem dX9_areAlike_160 : decode cX9_areAlike 160 = .ok (.iadd, 1) := by decide +kernel
theorem dX9_areAlike_161 : decode cX9_areAlike 161 = .ok (.sipush 420, 3) := by decide +kernel
theorem dX9_areAlike_164 : decode cX9_areAlike 164 = .ok (.imul, 1) := by decide +kernel
theorem dX9_areAlike_165 : decode cX9_areAlike 165 = .ok (.iload 5, 2) := by decide +kernel
theorem dX9_areAlike_167 : decode cX9_areAlike 167 = .ok (.iadd, 1) := by decide +kernel
theorem dX9_areAlike_168 : decode cX9_areAlike 168 = .ok (.iaload, 1) := by decide +kernel
theorem dX9_areAlike_169 : decode cX9_areAlike 169 = .ok (.if_icmp .ne 7, 3) := by decide +kernel
theorem dX9_areAlike_172 : decode cX9_areAlike 172 = .ok (.iconst 1, 1) := by decide +kernel
theorem dX9_areAlike_173 : decode cX9_areAlike 173 = .ok (.goto 4, 3) := by decide +kernel
theorem dX9_areAlike_176 : decode cX9_areAlike 176 = .ok (.iconst 0, 1) := by decide +kernel
theorem dX9_areAlike_177 : decode cX9_areAlike 177 = .ok (.istore_n 3, 1) := by decide +kernel
theorem dX9_areAlike_178 : decode cX9_areAlike 178 = .ok (.iinc 5 1, 3) := by decide +kernel
theorem dX9_areAlike_181 : decode cX9_areAlike 181 = .ok (.goto (-68), 3) := by decide +kernel
theorem dX9_areAlike_184 : decode cX9_areAlike 184 = .ok (.iinc 4 1, 3) := by decide +kernel
theorem dX9_areAlike_187 : decode cX9_areAlike 187 = .ok (.goto (-118), 3) := by decide +kernel
theorem dX9_areAlike_190 : decode cX9_areAlike 190 = .ok (.iload_n 3, 1) := by decide +kernel
theorem dX9_areAlike_191 : decode cX9_areAlike 191 = .ok (.ireturn, 1) := by decide +kernel
theorem dX9_melt_0 : decode cX9_melt 0 = .ok (.aload_n 0, 1) := by decide +kernel
theorem dX9_melt_1 : decode cX9_melt 1 = .ok (.iconst 0, 1) := by decide +kernel
theorem dX9_melt_2 : decode cX9_melt 2 = .ok (.putfield 59, 3) := by decide +kernel
theorem dX9_melt_5 : decode cX9_melt 5 = .ok (.aload_n 0, 1) := by decide +kernel
theorem dX9_melt_6 : decode cX9_melt 6 = .ok (.iload_n 1, 1) := by decide +kernel
theorem dX9_melt_7 : decode cX9_melt 7 = .ok (.invokevirtual 301, 3) := by decide +kernel
theorem dX9_melt_10 : decode cX9_melt 10 = .ok (.ifCond .ne 13, 3) := by decide +kernel
theorem dX9_melt_13 : decode cX9_melt 13 = .ok (.iload_n 1, 1) := by decide +kernel
theorem dX9_melt_14 : decode cX9_melt 14 = .ok (.aload_n 0, 1) := by decide +kernel
theorem dX9_melt_15 : decode cX9_melt 15 = .ok (.getfield 232, 3) := by decide +kernel
theorem dX9_melt_18 : decode cX9_melt 18 = .ok (.iconst 1, 1) := by decide +kernel
theorem dX9_melt_19 : decode cX9_melt 19 = .ok (.isub, 1) := by decide +kernel
theorem dX9_melt_20 : decode cX9_melt 20 = .ok (.if_icmp .ne 5, 3) := by decide +kernel
theorem dX9_melt_23 : decode cX9_melt 23 = .ok (.iconst 0, 1) := by decide +kernel
theorem dX9_melt_24 : decode cX9_melt 24 = .ok (.ireturn, 1) := by decide +kernel
theorem dX9_melt_25 : decode cX9_melt 25 = .ok (.bipush 24, 2) := by decide +kernel
theorem dX9_melt_27 : decode cX9_melt 27 = .ok (.iload_n 1, 1) := by decide +kernel
theorem dX9_melt_28 : decode cX9_melt 28 = .ok (.iadd, 1) := by decide +kernel
theorem dX9_melt_29 : decode cX9_melt 29 = .ok (.istore_n 2, 1) := by decide +kernel
theorem dX9_melt_30 : decode cX9_melt 30 = .ok (.iload_n 2, 1) := by decide +kernel
theorem dX9_melt_31 : decode cX9_melt 31 = .ok (.iconst 1, 1) := by decide +kernel
theorem dX9_melt_32 : decode cX9_melt 32 = .ok (.iadd, 1) := by decide +kernel
theorem dX9_melt_33 : decode cX9_melt 33 = .ok (.istore_n 3, 1) := by decide +kernel
theorem dX9_melt_34 : decode cX9_melt 34 = .ok (.aload_n 0, 1) := by decide +kernel
theorem dX9_melt_35 : decode cX9_melt 35 = .ok (.iload_n 2, 1) := by decide +kernel
theorem dX9_melt_36 : decode cX9_melt 36 = .ok (.iload_n 3, 1) := by decide +kernel
theorem dX9_melt_37 : decode cX9_melt 37 = .ok (.invokevirtual 304, 3) := by decide +kernel
theorem dX9_melt_40 : decode cX9_melt 40 = .ok (.ifCond .eq 20, 3) := by decide +kernel
theorem dX9_melt_43 : decode cX9_melt 43 = .ok (.aload_n 0, 1) := by decide +kernel
theorem dX9_melt_44 : decode cX9_melt 44 = .ok (.getfield 9, 3) := by decide +kernel
theorem dX9_melt_47 : decode cX9_melt 47 = .ok (.iload_n 2, 1) := by decide +kernel
theorem dX9_melt_48 : decode cX9_melt 48 = .ok (.iaload, 1) := by decide +kernel
theorem dX9_melt_49 : decode cX9_melt 49 = .ok (.aload_n 0, 1) := by decide +kernel
theorem dX9_melt_50 : decode cX9_melt 50 = .ok (.getfield 9, 3) := by decide +kernel
theorem dX9_melt_53 : decode cX9_melt 53 = .ok (.iload_n 3, 1) := by decide +kernel
theorem dX9_melt_54 : decode cX9_melt 54 = .ok (.iaload, 1) := by decide +kernel
theorem dX9_melt_55 : decode cX9_melt 55 = .ok (.iadd, 1) := by decide +kernel
theorem dX9_melt_56 : decode cX9_melt 56 = .ok (.iconst 3, 1) := by decide +kernel
theorem dX9_melt_57 : decode cX9_melt 57 = .ok (.if_icmp .le 5, 3) := by decide +kernel
theorem dX9_melt_60 : decode cX9_melt 60 = .ok (.iconst 0, 1) := by decide +kernel
theorem dX9_melt_61 : decode cX9_melt 61 = .ok (.ireturn, 1) := by decide +kernel
theorem dX9_melt_62 : decode cX9_melt 62 = .ok (.iconst 0, 1) := by decide +kernel
theorem dX9_melt_63 : decode cX9_melt 63 = .ok (.istore 4, 2) := by decide +kernel
theorem dX9_melt_65 : decode cX9_melt 65 = .ok (.iload 4, 2) := by decide +kernel
theorem dX9_melt_67 : decode cX9_melt 67 = .ok (.aload_n 0, 1) := by decide +kernel
theorem dX9_melt_68 : decode cX9_melt 68 = .ok (.getfield 9, 3) := by decide +kernel
theorem dX9_melt_71 : decode cX9_melt 71 = .ok (.iload_n 2, 1) := by decide +kernel
theorem dX9_melt_72 : decode cX9_melt 72 = .ok (.iaload, 1) := by decide +kernel
theorem dX9_melt_73 : decode cX9_melt 73 = .ok (.if_icmp .ge 56, 3) := by decide +kernel
theorem dX9_melt_76 : decode cX9_melt 76 = .ok (.iconst 0, 1) := by decide +kernel
theorem dX9_melt_77 : decode cX9_melt 77 = .ok (.istore 5, 2) := by decide +kernel
theorem dX9_melt_79 : decode cX9_melt 79 = .ok (.iload 5, 2) := by decide +kernel
theorem dX9_melt_81 : decode cX9_melt 81 = .ok (.aload_n 0, 1) := by decide +kernel
theorem dX9_melt_82 : decode cX9_melt 82 = .ok (.getfield 9, 3) := by decide +kernel
theorem dX9_melt_85 : decode cX9_melt 85 = .ok (.iload_n 3, 1) := by decide +kernel
theorem dX9_melt_86 : decode cX9_melt 86 = .ok (.iaload, 1) := by decide +kernel
theorem dX9_melt_87 : decode cX9_melt 87 = .ok (.if_icmp .ge 36, 3) := by decide +kernel
theorem dX9_melt_90 : decode cX9_melt 90 = .ok (.aload_n 0, 1) := by decide +kernel
theorem dX9_melt_91 : decode cX9_melt 91 = .ok (.getfield 13, 3) := by decide +kernel
theorem dX9_melt_94 : decode cX9_melt 94 = .ok (.iconst 3, 1) := by decide +kernel
theorem dX9_melt_95 : decode cX9_melt 95 = .ok (.iload_n 2, 1) := by decide +kernel
theorem dX9_melt_96 : decode cX9_melt 96 = .ok (.imul, 1) := by decide +kernel
theorem dX9_melt_97 : decode cX9_melt 97 = .ok (.iload 4, 2) := by decide +kernel
theorem dX9_melt_99 : decode cX9_melt 99 = .ok (.iadd, 1) := by decide +kernel
theorem dX9_melt_100 : decode cX9_melt 100 = .ok (.iaload, 1) := by decide +kernel
theorem dX9_melt_101 : decode cX9_melt 101 = .ok (.aload_n 0, 1) := by decide +kernel
theorem dX9_melt_102 : decode cX9_melt 102 = .ok (.getfield 13, 3) := by decide +kernel
theorem dX9_melt_105 : decode cX9_melt 105 = .ok (.iconst 3, 1) := by decide +kernel
theorem dX9_melt_106 : decode cX9_melt 106 = .ok (.iload_n 3, 1) := by decide +kernel
theorem dX9_melt_107 : decode cX9_melt 107 = .ok (.imul, 1) := by decide +kernel
theorem dX9_melt_108 : decode cX9_melt 108 = .ok (.iload 5, 2) := by decide +kernel
theorem dX9_melt_110 : decode cX9_melt 110 = .ok (.iadd, 1) := by decide +kernel
theorem dX9_melt_111 : decode cX9_melt 111 = .ok (.iaload, 1) := by decide +kernel
theorem dX9_melt_112 : decode cX9_melt 112 = .ok (.if_icmp .ne 5, 3) := by decide +kernel
theorem dX9_melt_115 : decode cX9_melt 115 = .ok (.iconst 0, 1) := by decide +kernel
theorem dX9_melt_116 : decode cX9_melt 116 = .ok (.ireturn, 1) := by decide +kernel
theorem dX9_melt_117 : decode cX9_melt 117 = .ok (.iinc 5 1, 3) := by decide +kernel
theorem dX9_melt_120 : decode cX9_melt 120 = .ok (.goto (-41), 3) := by decide +kernel
theorem dX9_melt_123 : decode cX9_melt 123 = .ok (.iinc 4 1, 3) := by decide +kernel
theorem dX9_melt_126 : decode cX9_melt 126 = .ok (.goto (-61), 3) := by decide +kernel
theorem dX9_melt_129 : decode cX9_melt 129 = .ok (.iconst 0, 1) := by decide +kernel
theorem dX9_melt_130 : decode cX9_melt 130 = .ok (.istore 4, 2) := by decide +kernel
theorem dX9_melt_132 : decode cX9_melt 132 = .ok (.iload 4, 2) := by decide +kernel
theorem dX9_melt_134 : decode cX9_melt 134 = .ok (.aload_n 0, 1) := by decide +kernel
theorem dX9_melt_135 : decode cX9_melt 135 = .ok (.getfield 9, 3) := by decide +kernel
theorem dX9_melt_138 : decode cX9_melt 138 = .ok (.iload_n 3, 1) := by decide +kernel
theorem dX9_melt_139 : decode cX9_melt 139 = .ok (.iaload, 1) := by decide +kernel
theorem dX9_melt_140 : decode cX9_melt 140 = .ok (.if_icmp .ge 38, 3) := by decide +kernel
theorem dX9_melt_143 : decode cX9_melt 143 = .ok (.aload_n 0, 1) := by decide +kernel
theorem dX9_melt_144 : decode cX9_melt 144 = .ok (.getfield 13, 3) := by decide +kernel
theorem dX9_melt_147 : decode cX9_melt 147 = .ok (.iconst 3, 1) := by decide +kernel
theorem dX9_melt_148 : decode cX9_melt 148 = .ok (.iload_n 2, 1) := by decide +kernel
theorem dX9_melt_149 : decode cX9_melt 149 = .ok (.imul, 1) := by decide +kernel
theorem dX9_melt_150 : decode cX9_melt 150 = .ok (.aload_n 0, 1) := by decide +kernel
theorem dX9_melt_151 : decode cX9_melt 151 = .ok (.getfield 9, 3) := by decide +kernel
theorem dX9_melt_154 : decode cX9_melt 154 = .ok (.iload_n 2, 1) := by decide +kernel
theorem dX9_melt_155 : decode cX9_melt 155 = .ok (.iaload, 1) := by decide +kernel
theorem dX9_melt_156 : decode cX9_melt 156 = .ok (.iadd, 1) := by decide +kernel
theorem dX9_melt_157 : decode cX9_melt 157 = .ok (.iload 4, 2) := by decide +kernel
theorem dX9_melt_159 : decode cX9_melt 159 = .ok (.iadd, 1) := by decide +kernel
theorem dX9_melt_160 : decode cX9_melt 160 = .ok (.aload_n 0, 1) := by decide +kernel
theorem dX9_melt_161 : decode cX9_melt 161 = .ok (.getfield 13, 3) := by decide +kernel
theorem dX9_melt_164 : decode cX9_melt 164 = .ok (.iconst 3, 1) := by decide +kernel
theorem dX9_melt_165 : decode cX9_melt 165 = .ok (.iload_n 3, 1) := by decide +kernel
theorem dX9_melt_166 : decode cX9_melt 166 = .ok (.imul, 1) := by decide +kernel
theorem dX9_melt_167 : decode cX9_melt 167 = .ok (.iload 4, 2) := by decide +kernel
theorem dX9_melt_169 : decode cX9_melt 169 = .ok (.iadd, 1) := by decide +kernel
theorem dX9_melt_170 : decode cX9_melt 170 = .ok (.iaload, 1) := by decide +kernel
theorem dX9_melt_171 : decode cX9_melt 171 = .ok (.iastore, 1) := by decide +kernel
theorem dX9_melt_172 : decode cX9_melt 172 = .ok (.iinc 4 1, 3) := by decide +kernel
theorem dX9_melt_175 : decode cX9_melt 175 = .ok (.goto (-43), 3) := by decide +kernel
theorem dX9_melt_178 : decode cX9_melt 178 = .ok (.aload_n 0, 1) := by decide +kernel
theorem dX9_melt_179 : decode cX9_melt 179 = .ok (.getfield 9, 3) := by decide +kernel
theorem dX9_melt_182 : decode cX9_melt 182 = .ok (.iload_n 2, 1) := by decide +kernel
theorem dX9_melt_183 : decode cX9_melt 183 = .ok (.dup2, 1) := by decide +kernel
theorem dX9_melt_184 : decode cX9_melt 184 = .ok (.iaload, 1) := by decide +kernel
theorem dX9_melt_185 : decode cX9_melt 185 = .ok (.aload_n 0, 1) := by decide +kernel
theorem dX9_melt_186 : decode cX9_melt 186 = .ok (.getfield 9, 3) := by decide +kernel
theorem dX9_melt_189 : decode cX9_melt 189 = .ok (.iload_n 3, 1) := by decide +kernel
theorem dX9_melt_190 : decode cX9_melt 190 = .ok (.iaload, 1) := by decide +kernel
theorem dX9_melt_191 : decode cX9_melt 191 = .ok (.iadd, 1) := by decide +kernel
theorem dX9_melt_192 : decode cX9_melt 192 = .ok (.iastore, 1) := by decide +kernel
theorem dX9_melt_193 : decode cX9_melt 193 = .ok (.iload_n 1, 1) := by decide +kernel
theorem dX9_melt_194 : decode cX9_melt 194 = .ok (.iconst 1, 1) := by decide +kernel
theorem dX9_melt_195 : decode cX9_melt 195 = .ok (.iadd, 1) := by decide +kernel
theorem dX9_melt_196 : decode cX9_melt 196 = .ok (.istore 4, 2) := by decide +kernel
theorem dX9_melt_198 : decode cX9_melt 198 = .ok (.iload 4, 2) := by decide +kernel
theorem dX9_melt_200 : decode cX9_melt 200 = .ok (.aload_n 0, 1) := by decide +kernel
theorem dX9_melt_201 : decode cX9_melt 201 = .ok (.getfield 232, 3) := by decide +kernel
theorem dX9_melt_204 : decode cX9_melt 204 = .ok (.iconst 1, 1) := by decide +kernel
theorem dX9_melt_205 : decode cX9_melt 205 = .ok (.isub, 1) := by decide +kernel
theorem dX9_melt_206 : decode cX9_melt 206 = .ok (.if_icmp .ge 25, 3) := by decide +kernel
theorem dX9_melt_209 : decode cX9_melt 209 = .ok (.aload_n 0, 1) := by decide +kernel
theorem dX9_melt_210 : decode cX9_melt 210 = .ok (.bipush 24, 2) := by decide +kernel
theorem dX9_melt_212 : decode cX9_melt 212 = .ok (.iload 4, 2) := by decide +kernel
theorem dX9_melt_214 : decode cX9_melt 214 = .ok (.iadd, 1) := by decide +kernel
theorem dX9_melt_215 : decode cX9_melt 215 = .ok (.iconst 1, 1) := by decide +kernel
theorem dX9_melt_216 : decode cX9_melt 216 = .ok (.iadd, 1) := by decide +kernel
theorem dX9_melt_217 : decode cX9_melt 217 = .ok (.bipush 24, 2) := by decide +kernel
theorem dX9_melt_219 : decode cX9_melt 219 = .ok (.iload 4, 2) := by decide +kernel
theorem dX9_melt_221 : decode cX9_melt 221 = .ok (.iadd, 1) := by decide +kernel
theorem dX9_melt_222 : decode cX9_melt 222 = .ok (.invokevirtual 213, 3) := by decide +kernel
theorem dX9_melt_225 : decode cX9_melt 225 = .ok (.iinc 4 1, 3) := by decide +kernel
theorem dX9_melt_228 : decode cX9_melt 228 = .ok (.goto (-30), 3) := by decide +kernel
theorem dX9_melt_231 : decode cX9_melt 231 = .ok (.aload_n 0, 1) := by decide +kernel
theorem dX9_melt_232 : decode cX9_melt 232 = .ok (.dup, 1) := by decide +kernel
theorem dX9_melt_233 : decode cX9_melt 233 = .ok (.getfield 232, 3) := by decide +kernel
theorem dX9_melt_236 : decode cX9_melt 236 = .ok (.iconst 1, 1) := by decide +kernel
theorem dX9_melt_237 : decode cX9_melt 237 = .ok (.isub, 1) := by decide +kernel
theorem dX9_melt_238 : decode cX9_melt 238 = .ok (.putfield 232, 3) := by decide +kernel
theorem dX9_melt_241 : decode cX9_melt 241 = .ok (.aload_n 0, 1) := by decide +kernel
theorem dX9_melt_242 : decode cX9_melt 242 = .ok (.dup, 1) := by decide +kernel
theorem dX9_melt_243 : decode cX9_melt 243 = .ok (.getfield 226, 3) := by decide +kernel
theorem dX9_melt_246 : decode cX9_melt 246 = .ok (.iconst 1, 1) := by decide +kernel
theorem dX9_melt_247 : decode cX9_melt 247 = .ok (.iadd, 1) := by decide +kernel
theorem dX9_melt_248 : decode cX9_melt 248 = .ok (.putfield 226, 3) := by decide +kernel
theorem dX9_melt_251 : decode cX9_melt 251 = .ok (.iconst 1, 1) := by decide +kernel
theorem dX9_melt_252 : decode cX9_melt 252 = .ok (.ireturn, 1) := by decide +kernel
theorem dX9_turnsRound_0 : decode cX9_turnsRound 0 = .ok (.aload_n 0, 1) := by decide +kernel
theorem dX9_turnsRound_1 : decode cX9_turnsRound 1 = .ok (.getfield 25, 3) := by decide +kernel
theorem dX9_turnsRound_4 : decode cX9_turnsRound 4 = .ok (.iload_n 1, 1) := by decide +kernel
theorem dX9_turnsRound_5 : decode cX9_turnsRound 5 = .ok (.baload, 1) := by decide +kernel
theorem dX9_turnsRound_6 : decode cX9_turnsRound 6 = .ok (.ifCond .eq 13, 3) := by decide +kernel
theorem dX9_turnsRound_9 : decode cX9_turnsRound 9 = .ok (.aload_n 0, 1) := by decide +kernel
theorem dX9_turnsRound_10 : decode cX9_turnsRound 10 = .ok (.getfield 16, 3) := by decide +kernel
theorem dX9_turnsRound_13 : decode cX9_turnsRound 13 = .ok (.iload_n 1, 1) := by decide +kernel
theorem dX9_turnsRound_14 : decode cX9_turnsRound 14 = .ok (.iaload, 1) := by decide +kernel
theorem dX9_turnsRound_15 : decode cX9_turnsRound 15 = .ok (.iconst 3, 1) := by decide +kernel
theorem dX9_turnsRound_16 : decode cX9_turnsRound 16 = .ok (.if_icmp .ne 5, 3) := by decide +kernel
theorem dX9_turnsRound_19 : decode cX9_turnsRound 19 = .ok (.iconst 0, 1) := by decide +kernel
theorem dX9_turnsRound_20 : decode cX9_turnsRound 20 = .ok (.ireturn, 1) := by decide +kernel
theorem dX9_turnsRound_21 : decode cX9_turnsRound 21 = .ok (.aload_n 0, 1) := by decide +kernel
theorem dX9_turnsRound_22 : decode cX9_turnsRound 22 = .ok (.getfield 25, 3) := by decide +kernel
theorem dX9_turnsRound_25 : decode cX9_turnsRound 25 = .ok (.iload_n 1, 1) := by decide +kernel
theorem dX9_turnsRound_26 : decode cX9_turnsRound 26 = .ok (.iconst 0, 1) := by decide +kernel
theorem dX9_turnsRound_27 : decode cX9_turnsRound 27 = .ok (.bastore, 1) := by decide +kernel
theorem dX9_turnsRound_28 : decode cX9_turnsRound 28 = .ok (.iconst 1, 1) := by decide +kernel
theorem dX9_turnsRound_29 : decode cX9_turnsRound 29 = .ok (.ireturn, 1) := by decide +kernel
theorem dX9_turn_0 : decode cX9_turn 0 = .ok (.aload_n 0, 1) := by decide +kernel
theorem dX9_turn_1 : decode cX9_turn 1 = .ok (.iconst 0, 1) := by decide +kernel
theorem dX9_turn_2 : decode cX9_turn 2 = .ok (.putfield 59, 3) := by decide +kernel
theorem dX9_turn_5 : decode cX9_turn 5 = .ok (.aload_n 0, 1) := by decide +kernel
theorem dX9_turn_6 : decode cX9_turn 6 = .ok (.iload_n 1, 1) := by decide +kernel
theorem dX9_turn_7 : decode cX9_turn 7 = .ok (.invokevirtual 301, 3) := by decide +kernel
theorem dX9_turn_10 : decode cX9_turn 10 = .ok (.ifCond .ne 14, 3) := by decide +kernel
theorem dX9_turn_13 : decode cX9_turn 13 = .ok (.aload_n 0, 1) := by decide +kernel
theorem dX9_turn_14 : decode cX9_turn 14 = .ok (.bipush 24, 2) := by decide +kernel
theorem dX9_turn_16 : decode cX9_turn 16 = .ok (.iload_n 1, 1) := by decide +kernel
theorem dX9_turn_17 : decode cX9_turn 17 = .ok (.iadd, 1) := by decide +kernel
theorem dX9_turn_18 : decode cX9_turn 18 = .ok (.invokevirtual 307, 3) := by decide +kernel
theorem dX9_turn_21 : decode cX9_turn 21 = .ok (.ifCond .ne 5, 3) := by decide +kernel
theorem dX9_turn_24 : decode cX9_turn 24 = .ok (.iconst 0, 1) := by decide +kernel
theorem dX9_turn_25 : decode cX9_turn 25 = .ok (.ireturn, 1) := by decide +kernel
theorem dX9_turn_26 : decode cX9_turn 26 = .ok (.aload_n 0, 1) := by decide +kernel
theorem dX9_turn_27 : decode cX9_turn 27 = .ok (.dup, 1) := by decide +kernel
theorem dX9_turn_28 : decode cX9_turn 28 = .ok (.getfield 226, 3) := by decide +kernel
theorem dX9_turn_31 : decode cX9_turn 31 = .ok (.iconst 1, 1) := by decide +kernel
theorem dX9_turn_32 : decode cX9_turn 32 = .ok (.iadd, 1) := by decide +kernel
theorem dX9_turn_33 : decode cX9_turn 33 = .ok (.putfield 226, 3) := by decide +kernel
theorem dX9_turn_36 : decode cX9_turn 36 = .ok (.iconst 1, 1) := by decide +kernel
theorem dX9_turn_37 : decode cX9_turn 37 = .ok (.ireturn, 1) := by decide +kernel
theorem dX9_eases_0 : decode cX9_eases 0 = .ok (.aload_n 0, 1) := by decide +kernel
theorem dX9_eases_1 : decode cX9_eases 1 = .ok (.iload_n 1, 1) := by decide +kernel
theorem dX9_eases_2 : decode cX9_eases 2 = .ok (.invokevirtual 283, 3) := by decide +kernel
theorem dX9_eases_5 : decode cX9_eases 5 = .ok (.istore_n 2, 1) := by decide +kernel
theorem dX9_eases_6 : decode cX9_eases 6 = .ok (.aload_n 0, 1) := by decide +kernel
theorem dX9_eases_7 : decode cX9_eases 7 = .ok (.getfield 29, 3) := by decide +kernel
theorem dX9_eases_10 : decode cX9_eases 10 = .ok (.iconst 2, 1) := by decide +kernel
theorem dX9_eases_11 : decode cX9_eases 11 = .ok (.iload_n 1, 1) := by decide +kernel
theorem dX9_eases_12 : decode cX9_eases 12 = .ok (.imul, 1) := by decide +kernel
theorem dX9_eases_13 : decode cX9_eases 13 = .ok (.iconst 1, 1) := by decide +kernel
theorem dX9_eases_14 : decode cX9_eases 14 = .ok (.iadd, 1) := by decide +kernel
theorem dX9_eases_15 : decode cX9_eases 15 = .ok (.iaload, 1) := by decide +kernel
theorem dX9_eases_16 : decode cX9_eases 16 = .ok (.ifCond .le 7, 3) := by decide +kernel
theorem dX9_eases_19 : decode cX9_eases 19 = .ok (.iconst 1, 1) := by decide +kernel
theorem dX9_eases_20 : decode cX9_eases 20 = .ok (.goto 4, 3) := by decide +kernel
theorem dX9_eases_23 : decode cX9_eases 23 = .ok (.iconst 0, 1) := by decide +kernel
theorem dX9_eases_24 : decode cX9_eases 24 = .ok (.istore_n 3, 1) := by decide +kernel
theorem dX9_eases_25 : decode cX9_eases 25 = .ok (.aload_n 0, 1) := by decide +kernel
theorem dX9_eases_26 : decode cX9_eases 26 = .ok (.iconst 0, 1) := by decide +kernel
theorem dX9_eases_27 : decode cX9_eases 27 = .ok (.putfield 62, 3) := by decide +kernel
theorem dX9_eases_30 : decode cX9_eases 30 = .ok (.iconst (-1), 1) := by decide +kernel
theorem dX9_eases_31 : decode cX9_eases 31 = .ok (.istore 4, 2) := by decide +kernel
theorem dX9_eases_33 : decode cX9_eases 33 = .ok (.iload_n 3, 1) := by decide +kernel
theorem dX9_eases_34 : decode cX9_eases 34 = .ok (.ifCond .eq 78, 3) := by decide +kernel
theorem dX9_eases_37 : decode cX9_eases 37 = .ok (.aload_n 0, 1) := by decide +kernel
theorem dX9_eases_38 : decode cX9_eases 38 = .ok (.bipush 10, 2) := by decide +kernel
theorem dX9_eases_40 : decode cX9_eases 40 = .ok (.invokevirtual 68, 3) := by decide +kernel
theorem dX9_eases_43 : decode cX9_eases 43 = .ok (.istore 5, 2) := by decide +kernel
theorem dX9_eases_45 : decode cX9_eases 45 = .ok (.aload_n 0, 1) := by decide +kernel
theorem dX9_eases_46 : decode cX9_eases 46 = .ok (.iload 5, 2) := by decide +kernel
theorem dX9_eases_48 : decode cX9_eases 48 = .ok (.aload_n 0, 1) := by decide +kernel
theorem dX9_eases_49 : decode cX9_eases 49 = .ok (.iconst 2, 1) := by decide +kernel
theorem dX9_eases_50 : decode cX9_eases 50 = .ok (.iload_n 1, 1) := by decide +kernel
theorem dX9_eases_51 : decode cX9_eases 51 = .ok (.imul, 1) := by decide +kernel
theorem dX9_eases_52 : decode cX9_eases 52 = .ok (.iconst 1, 1) := by decide +kernel
theorem dX9_eases_53 : decode cX9_eases 53 = .ok (.iadd, 1) := by decide +kernel
theorem dX9_eases_54 : decode cX9_eases 54 = .ok (.invokevirtual 310, 3) := by decide +kernel
theorem dX9_eases_57 : decode cX9_eases 57 = .ok (.invokevirtual 75, 3) := by decide +kernel
theorem dX9_eases_60 : decode cX9_eases 60 = .ok (.iload 5, 2) := by decide +kernel
theorem dX9_eases_62 : decode cX9_eases 62 = .ok (.istore 4, 2) := by decide +kernel
theorem dX9_eases_64 : decode cX9_eases 64 = .ok (.aload_n 0, 1) := by decide +kernel
theorem dX9_eases_65 : decode cX9_eases 65 = .ok (.getfield 29, 3) := by decide +kernel
theorem dX9_eases_68 : decode cX9_eases 68 = .ok (.iconst 2, 1) := by decide +kernel
theorem dX9_eases_69 : decode cX9_eases 69 = .ok (.iload_n 1, 1) := by decide +kernel
theorem dX9_eases_70 : decode cX9_eases 70 = .ok (.imul, 1) := by decide +kernel
theorem dX9_eases_71 : decode cX9_eases 71 = .ok (.iaload, 1) := by decide +kernel
theorem dX9_eases_72 : decode cX9_eases 72 = .ok (.ifCond .le 37, 3) := by decide +kernel
theorem dX9_eases_75 : decode cX9_eases 75 = .ok (.aload_n 0, 1) := by decide +kernel
theorem dX9_eases_76 : decode cX9_eases 76 = .ok (.sipush 1000, 3) := by decide +kernel
theorem dX9_eases_79 : decode cX9_eases 79 = .ok (.invokevirtual 68, 3) := by decide +kernel
theorem dX9_eases_82 : decode cX9_eases 82 = .ok (.istore 6, 2) := by decide +kernel
theorem dX9_eases_84 : decode cX9_eases 84 = .ok (.aload_n 0, 1) := by decide +kernel
theorem dX9_eases_85 : decode cX9_eases 85 = .ok (.iload 6, 2) := by decide +kernel
theorem dX9_eases_87 : decode cX9_eases 87 = .ok (.aload_n 0, 1) := by decide +kernel
theorem dX9_eases_88 : decode cX9_eases 88 = .ok (.iconst 2, 1) := by decide +kernel
theorem dX9_eases_89 : decode cX9_eases 89 = .ok (.iload_n 1, 1) := by decide +kernel
theorem dX9_eases_90 : decode cX9_eases 90 = .ok (.imul, 1) := by decide +kernel
theorem dX9_eases_91 : decode cX9_eases 91 = .ok (.invokevirtual 310, 3) := by decide +kernel
theorem dX9_eases_94 : decode cX9_eases 94 = .ok (.invokevirtual 75, 3) := by decide +kernel
theorem dX9_eases_97 : decode cX9_eases 97 = .ok (.aload_n 0, 1) := by decide +kernel
theorem dX9_eases_98 : decode cX9_eases 98 = .ok (.iload 6, 2) := by decide +kernel
theorem dX9_eases_100 : decode cX9_eases 100 = .ok (.iload 5, 2) := by decide +kernel
theorem dX9_eases_102 : decode cX9_eases 102 = .ok (.invokevirtual 75, 3) := by decide +kernel
theorem dX9_eases_105 : decode cX9_eases 105 = .ok (.iload 6, 2) := by decide +kernel
theorem dX9_eases_107 : decode cX9_eases 107 = .ok (.istore 4, 2) := by decide +kernel
theorem dX9_eases_109 : decode cX9_eases 109 = .ok (.goto 23, 3) := by decide +kernel
theorem dX9_eases_112 : decode cX9_eases 112 = .ok (.aload_n 0, 1) := by decide +kernel
theorem dX9_eases_113 : decode cX9_eases 113 = .ok (.getfield 29, 3) := by decide +kernel
theorem dX9_eases_116 : decode cX9_eases 116 = .ok (.iconst 2, 1) := by decide +kernel
theorem dX9_eases_117 : decode cX9_eases 117 = .ok (.iload_n 1, 1) := by decide +kernel
theorem dX9_eases_118 : decode cX9_eases 118 = .ok (.imul, 1) := by decide +kernel
theorem dX9_eases_119 : decode cX9_eases 119 = .ok (.iaload, 1) := by decide +kernel
theorem dX9_eases_120 : decode cX9_eases 120 = .ok (.ifCond .le 12, 3) := by decide +kernel
theorem dX9_eases_123 : decode cX9_eases 123 = .ok (.aload_n 0, 1) := by decide +kernel
theorem dX9_eases_124 : decode cX9_eases 124 = .ok (.iconst 2, 1) := by decide +kernel
theorem dX9_eases_125 : decode cX9_eases 125 = .ok (.iload_n 1, 1) := by decide +kernel
theorem dX9_eases_126 : decode cX9_eases 126 = .ok (.imul, 1) := by decide +kernel
theorem dX9_eases_127 : decode cX9_eases 127 = .ok (.invokevirtual 310, 3) := by decide +kernel
theorem dX9_eases_130 : decode cX9_eases 130 = .ok (.istore 4, 2) := by decide +kernel
theorem dX9_eases_132 : decode cX9_eases 132 = .ok (.iload 4, 2) := by decide +kernel
theorem dX9_eases_134 : decode cX9_eases 134 = .ok (.ifCond .ge 5, 3) := by decide +kernel
theorem dX9_eases_137 : decode cX9_eases 137 = .ok (.iconst 0, 1) := by decide +kernel
theorem dX9_eases_138 : decode cX9_eases 138 = .ok (.ireturn, 1) := by decide +kernel
theorem dX9_eases_139 : decode cX9_eases 139 = .ok (.aload_n 0, 1) := by decide +kernel
theorem dX9_eases_140 : decode cX9_eases 140 = .ok (.aload_n 0, 1) := by decide +kernel
theorem dX9_eases_141 : decode cX9_eases 141 = .ok (.iload 4, 2) := by decide +kernel
theorem dX9_eases_143 : decode cX9_eases 143 = .ok (.invokevirtual 79, 3) := by decide +kernel
theorem dX9_eases_146 : decode cX9_eases 146 = .ok (.iconst 2, 1) := by decide +kernel
theorem dX9_eases_147 : decode cX9_eases 147 = .ok (.iload_n 1, 1) := by decide +kernel
theorem dX9_eases_148 : decode cX9_eases 148 = .ok (.imul, 1) := by decide +kernel
theorem dX9_eases_149 : decode cX9_eases 149 = .ok (.invokevirtual 161, 3) := by decide +kernel
theorem dX9_eases_152 : decode cX9_eases 152 = .ok (.aload_n 0, 1) := by decide +kernel
theorem dX9_eases_153 : decode cX9_eases 153 = .ok (.getfield 29, 3) := by decide +kernel
theorem dX9_eases_156 : decode cX9_eases 156 = .ok (.iconst 2, 1) := by decide +kernel
theorem dX9_eases_157 : decode cX9_eases 157 = .ok (.iload_n 1, 1) := by decide +kernel
theorem dX9_eases_158 : decode cX9_eases 158 = .ok (.imul, 1) := by decide +kernel
theorem dX9_eases_159 : decode cX9_eases 159 = .ok (.iconst 1, 1) := by decide +kernel
theorem dX9_eases_160 : decode cX9_eases 160 = .ok (.iadd, 1) := by decide +kernel
theorem dX9_eases_161 : decode cX9_eases 161 = .ok (.iconst 0, 1) := by decide +kernel
theorem dX9_eases_162 : decode cX9_eases 162 = .ok (.iastore, 1) := by decide +kernel
theorem dX9_eases_163 : decode cX9_eases 163 = .ok (.iload_n 3, 1) := by decide +kernel
theorem dX9_eases_164 : decode cX9_eases 164 = .ok (.ifCond .ne 12, 3) := by decide +kernel
theorem dX9_eases_167 : decode cX9_eases 167 = .ok (.aload_n 0, 1) := by decide +kernel
theorem dX9_eases_168 : decode cX9_eases 168 = .ok (.iload_n 1, 1) := by decide +kernel
theorem dX9_eases_169 : decode cX9_eases 169 = .ok (.invokevirtual 283, 3) := by decide +kernel
theorem dX9_eases_172 : decode cX9_eases 172 = .ok (.iload_n 2, 1) := by decide +kernel
theorem dX9_eases_173 : decode cX9_eases 173 = .ok (.if_icmp .eq 7, 3) := by decide +kernel
theorem dX9_eases_176 : decode cX9_eases 176 = .ok (.iconst 1, 1) := by decide +kernel
theorem dX9_eases_177 : decode cX9_eases 177 = .ok (.goto 4, 3) := by decide +kernel
theorem dX9_eases_180 : decode cX9_eases 180 = .ok (.iconst 0, 1) := by decide +kernel
theorem dX9_eases_181 : decode cX9_eases 181 = .ok (.ireturn, 1) := by decide +kernel
theorem dX9_ease_0 : decode cX9_ease 0 = .ok (.aload_n 0, 1) := by decide +kernel
theorem dX9_ease_1 : decode cX9_ease 1 = .ok (.iconst 0, 1) := by decide +kernel
theorem dX9_ease_2 : decode cX9_ease 2 = .ok (.putfield 59, 3) := by decide +kernel
theorem dX9_ease_5 : decode cX9_ease 5 = .ok (.aload_n 0, 1) := by decide +kernel
theorem dX9_ease_6 : decode cX9_ease 6 = .ok (.iload_n 1, 1) := by decide +kernel
theorem dX9_ease_7 : decode cX9_ease 7 = .ok (.invokevirtual 301, 3) := by decide +kernel
theorem dX9_ease_10 : decode cX9_ease 10 = .ok (.ifCond .ne 14, 3) := by decide +kernel
theorem dX9_ease_13 : decode cX9_ease 13 = .ok (.aload_n 0, 1) := by decide +kernel
theorem dX9_ease_14 : decode cX9_ease 14 = .ok (.bipush 24, 2) := by decide +kernel
theorem dX9_ease_16 : decode cX9_ease 16 = .ok (.iload_n 1, 1) := by decide +kernel
theorem dX9_ease_17 : decode cX9_ease 17 = .ok (.iadd, 1) := by decide +kernel
theorem dX9_ease_18 : decode cX9_ease 18 = .ok (.invokevirtual 313, 3) := by decide +kernel
theorem dX9_ease_21 : decode cX9_ease 21 = .ok (.ifCond .ne 5, 3) := by decide +kernel
theorem dX9_ease_24 : decode cX9_ease 24 = .ok (.iconst 0, 1) := by decide +kernel
theorem dX9_ease_25 : decode cX9_ease 25 = .ok (.ireturn, 1) := by decide +kernel
theorem dX9_ease_26 : decode cX9_ease 26 = .ok (.aload_n 0, 1) := by decide +kernel
theorem dX9_ease_27 : decode cX9_ease 27 = .ok (.dup, 1) := by decide +kernel
theorem dX9_ease_28 : decode cX9_ease 28 = .ok (.getfield 226, 3) := by decide +kernel
theorem dX9_ease_31 : decode cX9_ease 31 = .ok (.iconst 1, 1) := by decide +kernel
theorem dX9_ease_32 : decode cX9_ease 32 = .ok (.iadd, 1) := by decide +kernel
theorem dX9_ease_33 : decode cX9_ease 33 = .ok (.putfield 226, 3) := by decide +kernel
theorem dX9_ease_36 : decode cX9_ease 36 = .ok (.iconst 1, 1) := by decide +kernel
theorem dX9_ease_37 : decode cX9_ease 37 = .ok (.ireturn, 1) := by decide +kernel
theorem dX9_again_0 : decode cX9_again 0 = .ok (.aload_n 0, 1) := by decide +kernel
theorem dX9_again_1 : decode cX9_again 1 = .ok (.iconst 0, 1) := by decide +kernel
theorem dX9_again_2 : decode cX9_again 2 = .ok (.putfield 59, 3) := by decide +kernel
theorem dX9_again_5 : decode cX9_again 5 = .ok (.aload_n 0, 1) := by decide +kernel
theorem dX9_again_6 : decode cX9_again 6 = .ok (.aload_n 0, 1) := by decide +kernel
theorem dX9_again_7 : decode cX9_again 7 = .ok (.getfield 219, 3) := by decide +kernel
theorem dX9_again_10 : decode cX9_again 10 = .ok (.ifCond .ne 7, 3) := by decide +kernel
theorem dX9_again_13 : decode cX9_again 13 = .ok (.iconst 1, 1) := by decide +kernel
theorem dX9_again_14 : decode cX9_again 14 = .ok (.goto 4, 3) := by decide +kernel
theorem dX9_again_17 : decode cX9_again 17 = .ok (.iconst 0, 1) := by decide +kernel
theorem dX9_again_18 : decode cX9_again 18 = .ok (.iconst 1, 1) := by decide +kernel
theorem dX9_again_19 : decode cX9_again 19 = .ok (.invokevirtual 209, 3) := by decide +kernel
theorem dX9_again_22 : decode cX9_again 22 = .ok (.ifCond .eq 4, 3) := by decide +kernel
theorem dX9_again_25 : decode cX9_again 25 = .ok (.return_, 1) := by decide +kernel
theorem dX9_again_26 : decode cX9_again 26 = .ok (.aload_n 0, 1) := by decide +kernel
theorem dX9_again_27 : decode cX9_again 27 = .ok (.invokevirtual 229, 3) := by decide +kernel
theorem dX9_again_30 : decode cX9_again 30 = .ok (.return_, 1) := by decide +kernel
theorem dX9_tries_0 : decode cX9_tries 0 = .ok (.aload_n 0, 1) := by decide +kernel
theorem dX9_tries_1 : decode cX9_tries 1 = .ok (.iload_n 2, 1) := by decide +kernel
theorem dX9_tries_2 : decode cX9_tries 2 = .ok (.iconst 1, 1) := by decide +kernel
theorem dX9_tries_3 : decode cX9_tries 3 = .ok (.iand, 1) := by decide +kernel
theorem dX9_tries_4 : decode cX9_tries 4 = .ok (.ifCond .ne 7, 3) := by decide +kernel
theorem dX9_tries_7 : decode cX9_tries 7 = .ok (.iconst 1, 1) := by decide +kernel
theorem dX9_tries_8 : decode cX9_tries 8 = .ok (.goto 9, 3) := by decide +kernel
theorem dX9_tries_11 : decode cX9_tries 11 = .ok (.aload_n 0, 1) := by decide +kernel
theorem dX9_tries_12 : decode cX9_tries 12 = .ok (.getfield 9, 3) := by decide +kernel
theorem dX9_tries_15 : decode cX9_tries 15 = .ok (.iload_n 1, 1) := by decide +kernel
theorem dX9_tries_16 : decode cX9_tries 16 = .ok (.iaload, 1) := by decide +kernel
theorem dX9_tries_17 : decode cX9_tries 17 = .ok (.putfield 316, 3) := by decide +kernel
theorem dX9_tries_20 : decode cX9_tries 20 = .ok (.iload_n 2, 1) := by decide +kernel
theorem dX9_tries_21 : decode cX9_tries 21 = .ok (.iconst 1, 1) := by decide +kernel
theorem dX9_tries_22 : decode cX9_tries 22 = .ok (.iand, 1) := by decide +kernel
theorem dX9_tries_23 : decode cX9_tries 23 = .ok (.ifCond .eq 15, 3) := by decide +kernel
theorem dX9_tries_26 : decode cX9_tries 26 = .ok (.aload_n 0, 1) := by decide +kernel
theorem dX9_tries_27 : decode cX9_tries 27 = .ok (.getfield 9, 3) := by decide +kernel
theorem dX9_tries_30 : decode cX9_tries 30 = .ok (.iload_n 1, 1) := by decide +kernel
theorem dX9_tries_31 : decode cX9_tries 31 = .ok (.iaload, 1) := by decide +kernel
theorem dX9_tries_32 : decode cX9_tries 32 = .ok (.iconst 2, 1) := by decide +kernel
theorem dX9_tries_33 : decode cX9_tries 33 = .ok (.if_icmp .ge 5, 3) := by decide +kernel
theorem dX9_tries_36 : decode cX9_tries 36 = .ok (.iconst (-1), 1) := by decide +kernel
theorem dX9_tries_37 : decode cX9_tries 37 = .ok (.ireturn, 1) := by decide +kernel
theorem dX9_tries_38 : decode cX9_tries 38 = .ok (.iconst 0, 1) := by decide +kernel
theorem dX9_tries_39 : decode cX9_tries 39 = .ok (.istore_n 3, 1) := by decide +kernel
theorem dX9_tries_40 : decode cX9_tries 40 = .ok (.iload_n 3, 1) := by decide +kernel
theorem dX9_tries_41 : decode cX9_tries 41 = .ok (.aload_n 0, 1) := by decide +kernel
theorem dX9_tries_42 : decode cX9_tries 42 = .ok (.getfield 316, 3) := by decide +kernel
theorem dX9_tries_45 : decode cX9_tries 45 = .ok (.if_icmp .ge 58, 3) := by decide +kernel
theorem dX9_tries_48 : decode cX9_tries 48 = .ok (.aload_n 0, 1) := by decide +kernel
theorem dX9_tries_49 : decode cX9_tries 49 = .ok (.iload_n 1, 1) := by decide +kernel
theorem dX9_tries_50 : decode cX9_tries 50 = .ok (.bipush 72, 2) := by decide +kernel
theorem dX9_tries_52 : decode cX9_tries 52 = .ok (.iload_n 3, 1) := by decide +kernel
theorem dX9_tries_53 : decode cX9_tries 53 = .ok (.iadd, 1) := by decide +kernel
theorem dX9_tries_54 : decode cX9_tries 54 = .ok (.invokevirtual 213, 3) := by decide +kernel
theorem dX9_tries_57 : decode cX9_tries 57 = .ok (.iload_n 2, 1) := by decide +kernel
theorem dX9_tries_58 : decode cX9_tries 58 = .ok (.iconst 1, 1) := by decide +kernel
theorem dX9_tries_59 : decode cX9_tries 59 = .ok (.iand, 1) := by decide +kernel
theorem dX9_tries_60 : decode cX9_tries 60 = .ok (.ifCond .ne 6, 3) := by decide +kernel
theorem dX9_tries_63 : decode cX9_tries 63 = .ok (.goto 34, 3) := by decide +kernel
theorem dX9_tries_66 : decode cX9_tries 66 = .ok (.aload_n 0, 1) := by decide +kernel
theorem dX9_tries_67 : decode cX9_tries 67 = .ok (.getfield 9, 3) := by decide +kernel
theorem dX9_tries_70 : decode cX9_tries 70 = .ok (.bipush 72, 2) := by decide +kernel
theorem dX9_tries_72 : decode cX9_tries 72 = .ok (.iload_n 3, 1) := by decide +kernel
theorem dX9_tries_73 : decode cX9_tries 73 = .ok (.iadd, 1) := by decide +kernel
theorem dX9_tries_74 : decode cX9_tries 74 = .ok (.iconst 1, 1) := by decide +kernel
theorem dX9_tries_75 : decode cX9_tries 75 = .ok (.iastore, 1) := by decide +kernel
theorem dX9_tries_76 : decode cX9_tries 76 = .ok (.aload_n 0, 1) := by decide +kernel
theorem dX9_tries_77 : decode cX9_tries 77 = .ok (.getfield 13, 3) := by decide +kernel
theorem dX9_tries_80 : decode cX9_tries 80 = .ok (.iconst 3, 1) := by decide +kernel
theorem dX9_tries_81 : decode cX9_tries 81 = .ok (.bipush 72, 2) := by decide +kernel
theorem dX9_tries_83 : decode cX9_tries 83 = .ok (.iload_n 3, 1) := by decide +kernel
theorem dX9_tries_84 : decode cX9_tries 84 = .ok (.iadd, 1) := by decide +kernel
theorem dX9_tries_85 : decode cX9_tries 85 = .ok (.imul, 1) := by decide +kernel
theorem dX9_tries_86 : decode cX9_tries 86 = .ok (.aload_n 0, 1) := by decide +kernel
theorem dX9_tries_87 : decode cX9_tries 87 = .ok (.getfield 13, 3) := by decide +kernel
theorem dX9_tries_90 : decode cX9_tries 90 = .ok (.iconst 3, 1) := by decide +kernel
theorem dX9_tries_91 : decode cX9_tries 91 = .ok (.iload_n 1, 1) := by decide +kernel
theorem dX9_tries_92 : decode cX9_tries 92 = .ok (.imul, 1) := by decide +kernel
theorem dX9_tries_93 : decode cX9_tries 93 = .ok (.iload_n 3, 1) := by decide +kernel
theorem dX9_tries_94 : decode cX9_tries 94 = .ok (.iadd, 1) := by decide +kernel
theorem dX9_tries_95 : decode cX9_tries 95 = .ok (.iaload, 1) := by decide +kernel
theorem dX9_tries_96 : decode cX9_tries 96 = .ok (.iastore, 1) := by decide +kernel
theorem dX9_tries_97 : decode cX9_tries 97 = .ok (.iinc 3 1, 3) := by decide +kernel
theorem dX9_tries_100 : decode cX9_tries 100 = .ok (.goto (-60), 3) := by decide +kernel
theorem dX9_tries_103 : decode cX9_tries 103 = .ok (.iconst 1, 1) := by decide +kernel
theorem dX9_tries_104 : decode cX9_tries 104 = .ok (.istore_n 3, 1) := by decide +kernel
theorem dX9_tries_105 : decode cX9_tries 105 = .ok (.bipush 72, 2) := by decide +kernel
theorem dX9_tries_107 : decode cX9_tries 107 = .ok (.istore 4, 2) := by decide +kernel
theorem dX9_tries_109 : decode cX9_tries 109 = .ok (.iload 4, 2) := by decide +kernel
theorem dX9_tries_111 : decode cX9_tries 111 = .ok (.bipush 72, 2) := by decide +kernel
theorem dX9_tries_113 : decode cX9_tries 113 = .ok (.aload_n 0, 1) := by decide +kernel
theorem dX9_tries_114 : decode cX9_tries 114 = .ok (.getfield 316, 3) := by decide +kernel
theorem dX9_tries_117 : decode cX9_tries 117 = .ok (.iadd, 1) := by decide +kernel
theorem dX9_tries_118 : decode cX9_tries 118 = .ok (.if_icmp .ge 59, 3) := by decide +kernel
theorem dX9_tries_121 : decode cX9_tries 121 = .ok (.iload_n 2, 1) := by decide +kernel
theorem dX9_tries_122 : decode cX9_tries 122 = .ok (.iconst 2, 1) := by decide +kernel
theorem dX9_tries_123 : decode cX9_tries 123 = .ok (.iand, 1) := by decide +kernel
theorem dX9_tries_124 : decode cX9_tries 124 = .ok (.ifCond .eq 22, 3) := by decide +kernel
theorem dX9_tries_127 : decode cX9_tries 127 = .ok (.iload_n 3, 1) := by decide +kernel
theorem dX9_tries_128 : decode cX9_tries 128 = .ok (.ifCond .eq 16, 3) := by decide +kernel
theorem dX9_tries_131 : decode cX9_tries 131 = .ok (.aload_n 0, 1) := by decide +kernel
theorem dX9_tries_132 : decode cX9_tries 132 = .ok (.iload 4, 2) := by decide +kernel
theorem dX9_tries_134 : decode cX9_tries 134 = .ok (.invokevirtual 307, 3) := by decide +kernel
theorem dX9_tries_137 : decode cX9_tries 137 = .ok (.ifCond .eq 7, 3) := by decide +kernel
theorem dX9_tries_140 : decode cX9_tries 140 = .ok (.iconst 1, 1) := by decide +kernel
theorem dX9_tries_141 : decode cX9_tries 141 = .ok (.goto 4, 3) := by decide +kernel
theorem dX9_tries_144 : decode cX9_tries 144 = .ok (.iconst 0, 1) := by decide +kernel
theorem dX9_tries_145 : decode cX9_tries 145 = .ok (.istore_n 3, 1) := by decide +kernel
theorem dX9_tries_146 : decode cX9_tries 146 = .ok (.iload_n 2, 1) := by decide +kernel
theorem dX9_tries_147 : decode cX9_tries 147 = .ok (.iconst 4, 1) := by decide +kernel
theorem dX9_tries_148 : decode cX9_tries 148 = .ok (.iand, 1) := by decide +kernel
theorem dX9_tries_149 : decode cX9_tries 149 = .ok (.ifCond .eq 22, 3) := by decide +kernel
theorem dX9_tries_152 : decode cX9_tries 152 = .ok (.iload_n 3, 1) := by decide +kernel
theorem dX9_tries_153 : decode cX9_tries 153 = .ok (.ifCond .eq 16, 3) := by decide +kernel
theorem dX9_tries_156 : decode cX9_tries 156 = .ok (.aload_n 0, 1) := by decide +kernel
theorem dX9_tries_157 : decode cX9_tries 157 = .ok (.iload 4, 2) := by decide +kernel
theorem dX9_tries_159 : decode cX9_tries 159 = .ok (.invokevirtual 313, 3) := by decide +kernel
theorem dX9_tries_162 : decode cX9_tries 162 = .ok (.ifCond .eq 7, 3) := by decide +kernel
theorem dX9_tries_165 : decode cX9_tries 165 = .ok (.iconst 1, 1) := by decide +kernel
theorem dX9_tries_166 : decode cX9_tries 166 = .ok (.goto 4, 3) := by decide +kernel
theorem dX9_tries_169 : decode cX9_tries 169 = .ok (.iconst 0, 1) := by decide +kernel
theorem dX9_tries_170 : decode cX9_tries 170 = .ok (.istore_n 3, 1) := by decide +kernel
theorem dX9_tries_171 : decode cX9_tries 171 = .ok (.iinc 4 1, 3) := by decide +kernel
theorem dX9_tries_174 : decode cX9_tries 174 = .ok (.goto (-65), 3) := by decide +kernel
theorem dX9_tries_177 : decode cX9_tries 177 = .ok (.iload_n 3, 1) := by decide +kernel
theorem dX9_tries_178 : decode cX9_tries 178 = .ok (.ifCond .eq 16, 3) := by decide +kernel
theorem dX9_tries_181 : decode cX9_tries 181 = .ok (.aload_n 0, 1) := by decide +kernel
theorem dX9_tries_182 : decode cX9_tries 182 = .ok (.bipush 72, 2) := by decide +kernel
theorem dX9_tries_184 : decode cX9_tries 184 = .ok (.aload_n 0, 1) := by decide +kernel
theorem dX9_tries_185 : decode cX9_tries 185 = .ok (.getfield 316, 3) := by decide +kernel
theorem dX9_tries_188 : decode cX9_tries 188 = .ok (.invokevirtual 289, 3) := by decide +kernel
theorem dX9_tries_191 : decode cX9_tries 191 = .ok (.goto 4, 3) := by decide +kernel
theorem dX9_tries_194 : decode cX9_tries 194 = .ok (.iconst (-1), 1) := by decide +kernel
theorem dX9_tries_195 : decode cX9_tries 195 = .ok (.ireturn, 1) := by decide +kernel
theorem dX9_plainest_0 : decode cX9_plainest 0 = .ok (.aload_n 0, 1) := by decide +kernel
theorem dX9_plainest_1 : decode cX9_plainest 1 = .ok (.iconst 0, 1) := by decide +kernel
theorem dX9_plainest_2 : decode cX9_plainest 2 = .ok (.putfield 59, 3) := by decide +kernel
theorem dX9_plainest_5 : decode cX9_plainest 5 = .ok (.aload_n 0, 1) := by decide +kernel
theorem dX9_plainest_6 : decode cX9_plainest 6 = .ok (.aload_n 0, 1) := by decide +kernel
theorem dX9_plainest_7 : decode cX9_plainest 7 = .ok (.getfield 219, 3) := by decide +kernel
theorem dX9_plainest_10 : decode cX9_plainest 10 = .ok (.ifCond .ne 7, 3) := by decide +kernel
theorem dX9_plainest_13 : decode cX9_plainest 13 = .ok (.iconst 1, 1) := by decide +kernel
theorem dX9_plainest_14 : decode cX9_plainest 14 = .ok (.goto 4, 3) := by decide +kernel
theorem dX9_plainest_17 : decode cX9_plainest 17 = .ok (.iconst 0, 1) := by decide +kernel
theorem dX9_plainest_18 : decode cX9_plainest 18 = .ok (.iconst 1, 1) := by decide +kernel
theorem dX9_plainest_19 : decode cX9_plainest 19 = .ok (.invokevirtual 209, 3) := by decide +kernel
theorem dX9_plainest_22 : decode cX9_plainest 22 = .ok (.ifCond .eq 5, 3) := by decide +kernel
theorem dX9_plainest_25 : decode cX9_plainest 25 = .ok (.iconst 0, 1) := by decide +kernel
theorem dX9_plainest_26 : decode cX9_plainest 26 = .ok (.ireturn, 1) := by decide +kernel
theorem dX9_plainest_27 : decode cX9_plainest 27 = .ok (.aload_n 0, 1) := by decide +kernel
theorem dX9_plainest_28 : decode cX9_plainest 28 = .ok (.iconst 0, 1) := by decide +kernel
theorem dX9_plainest_29 : decode cX9_plainest 29 = .ok (.putfield 232, 3) := by decide +kernel
theorem dX9_plainest_32 : decode cX9_plainest 32 = .ok (.iconst 0, 1) := by decide +kernel
theorem dX9_plainest_33 : decode cX9_plainest 33 = .ok (.istore_n 1, 1) := by decide +kernel
theorem dX9_plainest_34 : decode cX9_plainest 34 = .ok (.iload_n 1, 1) := by decide +kernel
theorem dX9_plainest_35 : decode cX9_plainest 35 = .ok (.iconst 0, 1) := by decide +kernel
theorem dX9_plainest_36 : decode cX9_plainest 36 = .ok (.aload_n 0, 1) := by decide +kernel
theorem dX9_plainest_37 : decode cX9_plainest 37 = .ok (.getfield 216, 3) := by decide +kernel
theorem dX9_plainest_40 : decode cX9_plainest 40 = .ok (.iadd, 1) := by decide +kernel
theorem dX9_plainest_41 : decode cX9_plainest 41 = .ok (.if_icmp .ge 132, 3) := by decide +kernel
theorem dX9_plainest_44 : decode cX9_plainest 44 = .ok (.iconst (-1), 1) := by decide +kernel
theorem dX9_plainest_45 : decode cX9_plainest 45 = .ok (.istore_n 2, 1) := by decide +kernel
theorem dX9_plainest_46 : decode cX9_plainest 46 = .ok (.iconst 0, 1) := by decide +kernel
theorem dX9_plainest_47 : decode cX9_plainest 47 = .ok (.istore_n 3, 1) := by decide +kernel
theorem dX9_plainest_48 : decode cX9_plainest 48 = .ok (.iconst 0, 1) := by decide +kernel
theorem dX9_plainest_49 : decode cX9_plainest 49 = .ok (.istore 4, 2) := by decide +kernel
theorem dX9_plainest_51 : decode cX9_plainest 51 = .ok (.iload 4, 2) := by decide +kernel
theorem dX9_plainest_53 : decode cX9_plainest 53 = .ok (.bipush 8, 2) := by decide +kernel
theorem dX9_plainest_55 : decode cX9_plainest 55 = .ok (.if_icmp .ge 54, 3) := by decide +kernel
theorem dX9_plainest_58 : decode cX9_plainest 58 = .ok (.aload_n 0, 1) := by decide +kernel
theorem dX9_plainest_59 : decode cX9_plainest 59 = .ok (.iload_n 1, 1) := by decide +kernel
theorem dX9_plainest_60 : decode cX9_plainest 60 = .ok (.iload 4, 2) := by decide +kernel
theorem dX9_plainest_62 : decode cX9_plainest 62 = .ok (.invokevirtual 319, 3) := by decide +kernel
theorem dX9_plainest_65 : decode cX9_plainest 65 = .ok (.istore 5, 2) := by decide +kernel
theorem dX9_plainest_67 : decode cX9_plainest 67 = .ok (.iload 5, 2) := by decide +kernel
theorem dX9_plainest_69 : decode cX9_plainest 69 = .ok (.ifCond .lt 34, 3) := by decide +kernel
theorem dX9_plainest_72 : decode cX9_plainest 72 = .ok (.iload_n 2, 1) := by decide +kernel
theorem dX9_plainest_73 : decode cX9_plainest 73 = .ok (.ifCond .lt 24, 3) := by decide +kernel
theorem dX9_plainest_76 : decode cX9_plainest 76 = .ok (.iload 5, 2) := by decide +kernel
theorem dX9_plainest_78 : decode cX9_plainest 78 = .ok (.iload_n 3, 1) := by decide +kernel
theorem dX9_plainest_79 : decode cX9_plainest 79 = .ok (.if_icmp .lt 18, 3) := by decide +kernel
theorem dX9_plainest_82 : decode cX9_plainest 82 = .ok (.iload 5, 2) := by decide +kernel
theorem dX9_plainest_84 : decode cX9_plainest 84 = .ok (.iload_n 3, 1) := by decide +kernel
theorem dX9_plainest_85 : decode cX9_plainest 85 = .ok (.if_icmp .ne 18, 3) := by decide +kernel
theorem dX9_plainest_88 : decode cX9_plainest 88 = .ok (.iload 4, 2) := by decide +kernel
theorem dX9_plainest_90 : decode cX9_plainest 90 = .ok (.iload_n 2, 1) := by decide +kernel
theorem dX9_plainest_91 : decode cX9_plainest 91 = .ok (.invokestatic 322, 3) := by decide +kernel
theorem dX9_plainest_94 : decode cX9_plainest 94 = .ok (.ifCond .eq 9, 3) := by decide +kernel
theorem dX9_plainest_97 : decode cX9_plainest 97 = .ok (.iload 4, 2) := by decide +kernel
theorem dX9_plainest_99 : decode cX9_plainest 99 = .ok (.istore_n 2, 1) := by decide +kernel
theorem dX9_plainest_100 : decode cX9_plainest 100 = .ok (.iload 5, 2) := by decide +kernel
theorem dX9_plainest_102 : decode cX9_plainest 102 = .ok (.istore_n 3, 1) := by decide +kernel
theorem dX9_plainest_103 : decode cX9_plainest 103 = .ok (.iinc 4 1, 3) := by decide +kernel
theorem dX9_plainest_106 : decode cX9_plainest 106 = .ok (.goto (-55), 3) := by decide +kernel
theorem dX9_plainest_109 : decode cX9_plainest 109 = .ok (.aload_n 0, 1) := by decide +kernel
theorem dX9_plainest_110 : decode cX9_plainest 110 = .ok (.iload_n 1, 1) := by decide +kernel
theorem dX9_plainest_111 : decode cX9_plainest 111 = .ok (.iload_n 2, 1) := by decide +kernel
theorem dX9_plainest_112 : decode cX9_plainest 112 = .ok (.invokevirtual 319, 3) := by decide +kernel
theorem dX9_plainest_115 : decode cX9_plainest 115 = .ok (.istore 4, 2) := by decide +kernel
theorem dX9_plainest_117 : decode cX9_plainest 117 = .ok (.iconst 0, 1) := by decide +kernel
theorem dX9_plainest_118 : decode cX9_plainest 118 = .ok (.istore 5, 2) := by decide +kernel
theorem dX9_plainest_120 : decode cX9_plainest 120 = .ok (.iload 5, 2) := by decide +kernel
theorem dX9_plainest_122 : decode cX9_plainest 122 = .ok (.aload_n 0, 1) := by decide +kernel
theorem dX9_plainest_123 : decode cX9_plainest 123 = .ok (.getfield 316, 3) := by decide +kernel
theorem dX9_plainest_126 : decode cX9_plainest 126 = .ok (.if_icmp .ge 28, 3) := by decide +kernel
theorem dX9_plainest_129 : decode cX9_plainest 129 = .ok (.aload_n 0, 1) := by decide +kernel
theorem dX9_plainest_130 : decode cX9_plainest 130 = .ok (.bipush 72, 2) := by decide +kernel
theorem dX9_plainest_132 : decode cX9_plainest 132 = .ok (.iload 5, 2) := by decide +kernel
theorem dX9_plainest_134 : decode cX9_plainest 134 = .ok (.iadd, 1) := by decide +kernel
theorem dX9_plainest_135 : decode cX9_plainest 135 = .ok (.bipush 24, 2) := by decide +kernel
theorem dX9_plainest_137 : decode cX9_plainest 137 = .ok (.aload_n 0, 1) := by decide +kernel
theorem dX9_plainest_138 : decode cX9_plainest 138 = .ok (.getfield 232, 3) := by decide +kernel
theorem dX9_plainest_141 : decode cX9_plainest 141 = .ok (.iadd, 1) := by decide +kernel
theorem dX9_plainest_142 : decode cX9_plainest 142 = .ok (.iload 5, 2) := by decide +kernel
theorem dX9_plainest_144 : decode cX9_plainest 144 = .ok (.iadd, 1) := by decide +kernel
theorem dX9_plainest_145 : decode cX9_plainest 145 = .ok (.invokevirtual 213, 3) := by decide +kernel
theorem dX9_plainest_148 : decode cX9_plainest 148 = .ok (.iinc 5 1, 3) := by decide +kernel
theorem dX9_plainest_151 : decode cX9_plainest 151 = .ok (.goto (-31), 3) := by decide +kernel
theorem dX9_plainest_154 : decode cX9_plainest 154 = .ok (.aload_n 0, 1) := by decide +kernel
theorem dX9_plainest_155 : decode cX9_plainest 155 = .ok (.dup, 1) := by decide +kernel
theorem dX9_plainest_156 : decode cX9_plainest 156 = .ok (.getfield 232, 3) := by decide +kernel
theorem dX9_plainest_159 : decode cX9_plainest 159 = .ok (.aload_n 0, 1) := by decide +kernel
theorem dX9_plainest_160 : decode cX9_plainest 160 = .ok (.getfield 316, 3) := by decide +kernel
theorem dX9_plainest_163 : decode cX9_plainest 163 = .ok (.iadd, 1) := by decide +kernel
theorem dX9_plainest_164 : decode cX9_plainest 164 = .ok (.putfield 232, 3) := by decide +kernel
theorem dX9_plainest_167 : decode cX9_plainest 167 = .ok (.iinc 1 1, 3) := by decide +kernel
theorem dX9_plainest_170 : decode cX9_plainest 170 = .ok (.goto (-136), 3) := by decide +kernel
theorem dX9_plainest_173 : decode cX9_plainest 173 = .ok (.aload_n 0, 1) := by decide +kernel
theorem dX9_plainest_174 : decode cX9_plainest 174 = .ok (.bipush 24, 2) := by decide +kernel
theorem dX9_plainest_176 : decode cX9_plainest 176 = .ok (.aload_n 0, 1) := by decide +kernel
theorem dX9_plainest_177 : decode cX9_plainest 177 = .ok (.getfield 232, 3) := by decide +kernel
theorem dX9_plainest_180 : decode cX9_plainest 180 = .ok (.invokevirtual 289, 3) := by decide +kernel
theorem dX9_plainest_183 : decode cX9_plainest 183 = .ok (.ireturn, 1) := by decide +kernel
theorem dX9_isFewer_0 : decode cX9_isFewer 0 = .ok (.iload_n 0, 1) := by decide +kernel
theorem dX9_isFewer_1 : decode cX9_isFewer 1 = .ok (.invokestatic 325, 3) := by decide +kernel
theorem dX9_isFewer_4 : decode cX9_isFewer 4 = .ok (.iload_n 1, 1) := by decide +kernel
theorem dX9_isFewer_5 : decode cX9_isFewer 5 = .ok (.invokestatic 325, 3) := by decide +kernel
theorem dX9_isFewer_8 : decode cX9_isFewer 8 = .ok (.isub, 1) := by decide +kernel
theorem dX9_isFewer_9 : decode cX9_isFewer 9 = .ok (.istore_n 2, 1) := by decide +kernel
theorem dX9_isFewer_10 : decode cX9_isFewer 10 = .ok (.iload_n 2, 1) := by decide +kernel
theorem dX9_isFewer_11 : decode cX9_isFewer 11 = .ok (.ifCond .eq 13, 3) := by decide +kernel
theorem dX9_isFewer_14 : decode cX9_isFewer 14 = .ok (.iload_n 2, 1) := by decide +kernel
theorem dX9_isFewer_15 : decode cX9_isFewer 15 = .ok (.ifCond .ge 7, 3) := by decide +kernel
theorem dX9_isFewer_18 : decode cX9_isFewer 18 = .ok (.iconst 1, 1) := by decide +kernel
theorem dX9_isFewer_19 : decode cX9_isFewer 19 = .ok (.goto 4, 3) := by decide +kernel
theorem dX9_isFewer_22 : decode cX9_isFewer 22 = .ok (.iconst 0, 1) := by decide +kernel
theorem dX9_isFewer_23 : decode cX9_isFewer 23 = .ok (.ireturn, 1) := by decide +kernel
theorem dX9_isFewer_24 : decode cX9_isFewer 24 = .ok (.iload_n 0, 1) := by decide +kernel
theorem dX9_isFewer_25 : decode cX9_isFewer 25 = .ok (.iconst 1, 1) := by decide +kernel
theorem dX9_isFewer_26 : decode cX9_isFewer 26 = .ok (.iand, 1) := by decide +kernel
theorem dX9_isFewer_27 : decode cX9_isFewer 27 = .ok (.iload_n 1, 1) := by decide +kernel
theorem dX9_isFewer_28 : decode cX9_isFewer 28 = .ok (.iconst 1, 1) := by decide +kernel
theorem dX9_isFewer_29 : decode cX9_isFewer 29 = .ok (.iand, 1) := by decide +kernel
theorem dX9_isFewer_30 : decode cX9_isFewer 30 = .ok (.if_icmp .eq 15, 3) := by decide +kernel
theorem dX9_isFewer_33 : decode cX9_isFewer 33 = .ok (.iload_n 0, 1) := by decide +kernel
theorem dX9_isFewer_34 : decode cX9_isFewer 34 = .ok (.iconst 1, 1) := by decide +kernel
theorem dX9_isFewer_35 : decode cX9_isFewer 35 = .ok (.iand, 1) := by decide +kernel
theorem dX9_isFewer_36 : decode cX9_isFewer 36 = .ok (.ifCond .ne 7, 3) := by decide +kernel
theorem dX9_isFewer_39 : decode cX9_isFewer 39 = .ok (.iconst 1, 1) := by decide +kernel
theorem dX9_isFewer_40 : decode cX9_isFewer 40 = .ok (.goto 4, 3) := by decide +kernel
theorem dX9_isFewer_43 : decode cX9_isFewer 43 = .ok (.iconst 0, 1) := by decide +kernel
theorem dX9_isFewer_44 : decode cX9_isFewer 44 = .ok (.ireturn, 1) := by decide +kernel
theorem dX9_isFewer_45 : decode cX9_isFewer 45 = .ok (.iload_n 0, 1) := by decide +kernel
theorem dX9_isFewer_46 : decode cX9_isFewer 46 = .ok (.iconst 2, 1) := by decide +kernel
theorem dX9_isFewer_47 : decode cX9_isFewer 47 = .ok (.iand, 1) := by decide +kernel
theorem dX9_isFewer_48 : decode cX9_isFewer 48 = .ok (.iload_n 1, 1) := by decide +kernel
theorem dX9_isFewer_49 : decode cX9_isFewer 49 = .ok (.iconst 2, 1) := by decide +kernel
theorem dX9_isFewer_50 : decode cX9_isFewer 50 = .ok (.iand, 1) := by decide +kernel
theorem dX9_isFewer_51 : decode cX9_isFewer 51 = .ok (.if_icmp .ge 7, 3) := by decide +kernel
theorem dX9_isFewer_54 : decode cX9_isFewer 54 = .ok (.iconst 1, 1) := by decide +kernel
theorem dX9_isFewer_55 : decode cX9_isFewer 55 = .ok (.goto 4, 3) := by decide +kernel
theorem dX9_isFewer_58 : decode cX9_isFewer 58 = .ok (.iconst 0, 1) := by decide +kernel
theorem dX9_isFewer_59 : decode cX9_isFewer 59 = .ok (.ireturn, 1) := by decide +kernel
theorem dX9_isSo_0 : decode cX9_isSo 0 = .ok (.aload_n 0, 1) := by decide +kernel
theorem dX9_isSo_1 : decode cX9_isSo 1 = .ok (.getfield 33, 3) := by decide +kernel
theorem dX9_isSo_4 : decode cX9_isSo 4 = .ok (.iload_n 1, 1) := by decide +kernel
theorem dX9_isSo_5 : decode cX9_isSo 5 = .ok (.aload_n 0, 1) := by decide +kernel
theorem dX9_isSo_6 : decode cX9_isSo 6 = .ok (.getfield 65, 3) := by decide +kernel
theorem dX9_isSo_9 : decode cX9_isSo 9 = .ok (.iadd, 1) := by decide +kernel
theorem dX9_isSo_10 : decode cX9_isSo 10 = .ok (.iaload, 1) := by decide +kernel
theorem dX9_isSo_11 : decode cX9_isSo 11 = .ok (.istore_n 3, 1) := by decide +kernel
theorem dX9_isSo_12 : decode cX9_isSo 12 = .ok (.aload_n 0, 1) := by decide +kernel
theorem dX9_isSo_13 : decode cX9_isSo 13 = .ok (.dup, 1) := by decide +kernel
theorem dX9_isSo_14 : decode cX9_isSo 14 = .ok (.getfield 65, 3) := by decide +kernel
theorem dX9_isSo_17 : decode cX9_isSo 17 = .ok (.iconst 1, 1) := by decide +kernel
theorem dX9_isSo_18 : decode cX9_isSo 18 = .ok (.iadd, 1) := by decide +kernel
theorem dX9_isSo_19 : decode cX9_isSo 19 = .ok (.putfield 65, 3) := by decide +kernel
theorem dX9_isSo_22 : decode cX9_isSo 22 = .ok (.iload_n 3, 1) := by decide +kernel
theorem dX9_isSo_23 : decode cX9_isSo 23 = .ok (.bipush 10, 2) := by decide +kernel
theorem dX9_isSo_25 : decode cX9_isSo 25 = .ok (.if_icmp .ge 18, 3) := by decide +kernel
theorem dX9_isSo_28 : decode cX9_isSo 28 = .ok (.iload_n 2, 1) := by decide +kernel
theorem dX9_isSo_29 : decode cX9_isSo 29 = .ok (.iload_n 3, 1) := by decide +kernel
theorem dX9_isSo_30 : decode cX9_isSo 30 = .ok (.ishr, 1) := by decide +kernel
theorem dX9_isSo_31 : decode cX9_isSo 31 = .ok (.iconst 1, 1) := by decide +kernel
theorem dX9_isSo_32 : decode cX9_isSo 32 = .ok (.iand, 1) := by decide +kernel
theorem dX9_isSo_33 : decode cX9_isSo 33 = .ok (.iconst 1, 1) := by decide +kernel
theorem dX9_isSo_34 : decode cX9_isSo 34 = .ok (.if_icmp .ne 7, 3) := by decide +kernel
theorem dX9_isSo_37 : decode cX9_isSo 37 = .ok (.iconst 1, 1) := by decide +kernel
theorem dX9_isSo_38 : decode cX9_isSo 38 = .ok (.goto 4, 3) := by decide +kernel
theorem dX9_isSo_41 : decode cX9_isSo 41 = .ok (.iconst 0, 1) := by decide +kernel
theorem dX9_isSo_42 : decode cX9_isSo 42 = .ok (.ireturn, 1) := by decide +kernel
theorem dX9_isSo_43 : decode cX9_isSo 43 = .ok (.iload_n 3, 1) := by decide +kernel
theorem dX9_isSo_44 : decode cX9_isSo 44 = .ok (.bipush 10, 2) := by decide +kernel
theorem dX9_isSo_46 : decode cX9_isSo 46 = .ok (.if_icmp .ne 18, 3) := by decide +kernel
theorem dX9_isSo_49 : decode cX9_isSo 49 = .ok (.aload_n 0, 1) := by decide +kernel
theorem dX9_isSo_50 : decode cX9_isSo 50 = .ok (.iload_n 1, 1) := by decide +kernel
theorem dX9_isSo_51 : decode cX9_isSo 51 = .ok (.iload_n 2, 1) := by decide +kernel
theorem dX9_isSo_52 : decode cX9_isSo 52 = .ok (.invokevirtual 330, 3) := by decide +kernel
theorem dX9_isSo_55 : decode cX9_isSo 55 = .ok (.ifCond .ne 7, 3) := by decide +kernel
theorem dX9_isSo_58 : decode cX9_isSo 58 = .ok (.iconst 1, 1) := by decide +kernel
theorem dX9_isSo_59 : decode cX9_isSo 59 = .ok (.goto 4, 3) := by decide +kernel
theorem dX9_isSo_62 : decode cX9_isSo 62 = .ok (.iconst 0, 1) := by decide +kernel
theorem dX9_isSo_63 : decode cX9_isSo 63 = .ok (.ireturn, 1) := by decide +kernel
theorem dX9_isSo_64 : decode cX9_isSo 64 = .ok (.iload_n 3, 1) := by decide +kernel
theorem dX9_isSo_65 : decode cX9_isSo 65 = .ok (.sipush 2000, 3) := by decide +kernel
theorem dX9_isSo_68 : decode cX9_isSo 68 = .ok (.if_icmp .lt 11, 3) := by decide +kernel
theorem dX9_isSo_71 : decode cX9_isSo 71 = .ok (.iload_n 3, 1) := by decide +kernel
theorem dX9_isSo_72 : decode cX9_isSo 72 = .ok (.sipush 2000, 3) := by decide +kernel
theorem dX9_isSo_75 : decode cX9_isSo 75 = .ok (.isub, 1) := by decide +kernel
theorem dX9_isSo_76 : decode cX9_isSo 76 = .ok (.goto 8, 3) := by decide +kernel
theorem dX9_isSo_79 : decode cX9_isSo 79 = .ok (.iload_n 3, 1) := by decide +kernel
theorem dX9_isSo_80 : decode cX9_isSo 80 = .ok (.sipush 1000, 3) := by decide +kernel
theorem dX9_isSo_83 : decode cX9_isSo 83 = .ok (.isub, 1) := by decide +kernel
theorem dX9_isSo_84 : decode cX9_isSo 84 = .ok (.istore 4, 2) := by decide +kernel
theorem dX9_isSo_86 : decode cX9_isSo 86 = .ok (.iconst 0, 1) := by decide +kernel
theorem dX9_isSo_87 : decode cX9_isSo 87 = .ok (.istore 5, 2) := by decide +kernel
theorem dX9_isSo_89 : decode cX9_isSo 89 = .ok (.iconst 1, 1) := by decide +kernel
theorem dX9_isSo_90 : decode cX9_isSo 90 = .ok (.istore 6, 2) := by decide +kernel
theorem dX9_isSo_92 : decode cX9_isSo 92 = .ok (.iconst 0, 1) := by decide +kernel
theorem dX9_isSo_93 : decode cX9_isSo 93 = .ok (.istore 7, 2) := by decide +kernel
theorem dX9_isSo_95 : decode cX9_isSo 95 = .ok (.iload 7, 2) := by decide +kernel
theorem dX9_isSo_97 : decode cX9_isSo 97 = .ok (.iload 4, 2) := by decide +kernel
theorem dX9_isSo_99 : decode cX9_isSo 99 = .ok (.if_icmp .ge 51, 3) := by decide +kernel
theorem dX9_isSo_102 : decode cX9_isSo 102 = .ok (.aload_n 0, 1) := by decide +kernel
theorem dX9_isSo_103 : decode cX9_isSo 103 = .ok (.iload_n 1, 1) := by decide +kernel
theorem dX9_isSo_104 : decode cX9_isSo 104 = .ok (.iload_n 2, 1) := by decide +kernel
theorem dX9_isSo_105 : decode cX9_isSo 105 = .ok (.invokevirtual 330, 3) := by decide +kernel
theorem dX9_isSo_108 : decode cX9_isSo 108 = .ok (.istore 8, 2) := by decide +kernel
theorem dX9_isSo_110 : decode cX9_isSo 110 = .ok (.iload 5, 2) := by decide +kernel
theorem dX9_isSo_112 : decode cX9_isSo 112 = .ok (.ifCond .ne 8, 3) := by decide +kernel
theorem dX9_isSo_115 : decode cX9_isSo 115 = .ok (.iload 8, 2) := by decide +kernel
theorem dX9_isSo_117 : decode cX9_isSo 117 = .ok (.ifCond .eq 7, 3) := by decide +kernel
theorem dX9_isSo_120 : decode cX9_isSo 120 = .ok (.iconst 1, 1) := by decide +kernel
theorem dX9_isSo_121 : decode cX9_isSo 121 = .ok (.goto 4, 3) := by decide +kernel
theorem dX9_isSo_124 : decode cX9_isSo 124 = .ok (.iconst 0, 1) := by decide +kernel
theorem dX9_isSo_125 : decode cX9_isSo 125 = .ok (.istore 5, 2) := by decide +kernel
theorem dX9_isSo_127 : decode cX9_isSo 127 = .ok (.iload 6, 2) := by decide +kernel
theorem dX9_isSo_129 : decode cX9_isSo 129 = .ok (.ifCond .eq 12, 3) := by decide +kernel
theorem dX9_isSo_132 : decode cX9_isSo 132 = .ok (.iload 8, 2) := by decide +kernel
theorem dX9_isSo_134 : decode cX9_isSo 134 = .ok (.ifCond .eq 7, 3) := by decide +kernel
theorem dX9_isSo_137 : decode cX9_isSo 137 = .ok (.iconst 1, 1) := by decide +kernel
theorem dX9_isSo_138 : decode cX9_isSo 138 = .ok (.goto 4, 3) := by decide +kernel
theorem dX9_isSo_141 : decode cX9_isSo 141 = .ok (.iconst 0, 1) := by decide +kernel
theorem dX9_isSo_142 : decode cX9_isSo 142 = .ok (.istore 6, 2) := by decide +kernel
theorem dX9_isSo_144 : decode cX9_isSo 144 = .ok (.iinc 7 1, 3) := by decide +kernel
theorem dX9_isSo_147 : decode cX9_isSo 147 = .ok (.goto (-52), 3) := by decide +kernel
theorem dX9_isSo_150 : decode cX9_isSo 150 = .ok (.iload_n 3, 1) := by decide +kernel
theorem dX9_isSo_151 : decode cX9_isSo 151 = .ok (.sipush 2000, 3) := by decide +kernel
theorem dX9_isSo_154 : decode cX9_isSo 154 = .ok (.if_icmp .lt 8, 3) := by decide +kernel
theorem dX9_isSo_157 : decode cX9_isSo 157 = .ok (.iload 5, 2) := by decide +kernel
theorem dX9_isSo_159 : decode cX9_isSo 159 = .ok (.goto 5, 3) := by decide +kernel
theorem dX9_isSo_162 : decode cX9_isSo 162 = .ok (.iload 6, 2) := by decide +kernel
theorem dX9_isSo_164 : decode cX9_isSo 164 = .ok (.ireturn, 1) := by decide +kernel
theorem dX9_counts_0 : decode cX9_counts 0 = .ok (.aload_n 0, 1) := by decide +kernel
theorem dX9_counts_1 : decode cX9_counts 1 = .ok (.iconst 0, 1) := by decide +kernel
theorem dX9_counts_2 : decode cX9_counts 2 = .ok (.putfield 65, 3) := by decide +kernel
theorem dX9_counts_5 : decode cX9_counts 5 = .ok (.aload_n 0, 1) := by decide +kernel
theorem dX9_counts_6 : decode cX9_counts 6 = .ok (.getfield 29, 3) := by decide +kernel
theorem dX9_counts_9 : decode cX9_counts 9 = .ok (.iconst 2, 1) := by decide +kernel
theorem dX9_counts_10 : decode cX9_counts 10 = .ok (.iload_n 1, 1) := by decide +kernel
theorem dX9_counts_11 : decode cX9_counts 11 = .ok (.imul, 1) := by decide +kernel
theorem dX9_counts_12 : decode cX9_counts 12 = .ok (.iaload, 1) := by decide +kernel
theorem dX9_counts_13 : decode cX9_counts 13 = .ok (.ifCond .le 20, 3) := by decide +kernel
theorem dX9_counts_16 : decode cX9_counts 16 = .ok (.aload_n 0, 1) := by decide +kernel
theorem dX9_counts_17 : decode cX9_counts 17 = .ok (.iconst 2, 1) := by decide +kernel
theorem dX9_counts_18 : decode cX9_counts 18 = .ok (.iload_n 1, 1) := by decide +kernel
theorem dX9_counts_19 : decode cX9_counts 19 = .ok (.imul, 1) := by decide +kernel
theorem dX9_counts_20 : decode cX9_counts 20 = .ok (.sipush 420, 3) := by decide +kernel
theorem dX9_counts_23 : decode cX9_counts 23 = .ok (.imul, 1) := by decide +kernel
theorem dX9_counts_24 : decode cX9_counts 24 = .ok (.iload_n 2, 1) := by decide +kernel
theorem dX9_counts_25 : decode cX9_counts 25 = .ok (.invokevirtual 330, 3) := by decide +kernel
theorem dX9_counts_28 : decode cX9_counts 28 = .ok (.ifCond .ne 5, 3) := by decide +kernel
theorem dX9_counts_31 : decode cX9_counts 31 = .ok (.iconst 0, 1) := by decide +kernel
theorem dX9_counts_32 : decode cX9_counts 32 = .ok (.ireturn, 1) := by decide +kernel
theorem dX9_counts_33 : decode cX9_counts 33 = .ok (.aload_n 0, 1) := by decide +kernel
theorem dX9_counts_34 : decode cX9_counts 34 = .ok (.iconst 0, 1) := by decide +kernel
theorem dX9_counts_35 : decode cX9_counts 35 = .ok (.putfield 65, 3) := by decide +kernel
theorem dX9_counts_38 : decode cX9_counts 38 = .ok (.aload_n 0, 1) := by decide +kernel
theorem dX9_counts_39 : decode cX9_counts 39 = .ok (.getfield 29, 3) := by decide +kernel
theorem dX9_counts_42 : decode cX9_counts 42 = .ok (.iconst 2, 1) := by decide +kernel
theorem dX9_counts_43 : decode cX9_counts 43 = .ok (.iload_n 1, 1) := by decide +kernel
theorem dX9_counts_44 : decode cX9_counts 44 = .ok (.imul, 1) := by decide +kernel
theorem dX9_counts_45 : decode cX9_counts 45 = .ok (.iconst 1, 1) := by decide +kernel
theorem dX9_counts_46 : decode cX9_counts 46 = .ok (.iadd, 1) := by decide +kernel
theorem dX9_counts_47 : decode cX9_counts 47 = .ok (.iaload, 1) := by decide +kernel
theorem dX9_counts_48 : decode cX9_counts 48 = .ok (.ifCond .eq 20, 3) := by decide +kernel
theorem dX9_counts_51 : decode cX9_counts 51 = .ok (.aload_n 0, 1) := by decide +kernel
theorem dX9_counts_52 : decode cX9_counts 52 = .ok (.iconst 2, 1) := by decide +kernel
theorem dX9_counts_53 : decode cX9_counts 53 = .ok (.iload_n 1, 1) := by decide +kernel
theorem dX9_counts_54 : decode cX9_counts 54 = .ok (.imul, 1) := by decide +kernel
theorem dX9_counts_55 : decode cX9_counts 55 = .ok (.iconst 1, 1) := by decide +kernel
theorem dX9_counts_56 : decode cX9_counts 56 = .ok (.iadd, 1) := by decide +kernel
theorem dX9_counts_57 : decode cX9_counts 57 = .ok (.sipush 420, 3) := by decide +kernel
theorem dX9_counts_60 : decode cX9_counts 60 = .ok (.imul, 1) := by decide +kernel
theorem dX9_counts_61 : decode cX9_counts 61 = .ok (.iload_n 2, 1) := by decide +kernel
theorem dX9_counts_62 : decode cX9_counts 62 = .ok (.invokevirtual 330, 3) := by decide +kernel
theorem dX9_counts_65 : decode cX9_counts 65 = .ok (.ifCond .ne 7, 3) := by decide +kernel
theorem dX9_counts_68 : decode cX9_counts 68 = .ok (.iconst 1, 1) := by decide +kernel
theorem dX9_counts_69 : decode cX9_counts 69 = .ok (.goto 4, 3) := by decide +kernel
theorem dX9_counts_72 : decode cX9_counts 72 = .ok (.iconst 0, 1) := by decide +kernel
theorem dX9_counts_73 : decode cX9_counts 73 = .ok (.ireturn, 1) := by decide +kernel
theorem dX9_hasAct_0 : decode cX9_hasAct 0 = .ok (.iconst 0, 1) := by decide +kernel
theorem dX9_hasAct_1 : decode cX9_hasAct 1 = .ok (.istore_n 3, 1) := by decide +kernel
theorem dX9_hasAct_2 : decode cX9_hasAct 2 = .ok (.iconst 0, 1) := by decide +kernel
theorem dX9_hasAct_3 : decode cX9_hasAct 3 = .ok (.istore 4, 2) := by decide +kernel
theorem dX9_hasAct_5 : decode cX9_hasAct 5 = .ok (.iload 4, 2) := by decide +kernel
theorem dX9_hasAct_7 : decode cX9_hasAct 7 = .ok (.aload_n 0, 1) := by decide +kernel
theorem dX9_hasAct_8 : decode cX9_hasAct 8 = .ok (.getfield 9, 3) := by decide +kernel
theorem dX9_hasAct_11 : decode cX9_hasAct 11 = .ok (.iload_n 1, 1) := by decide +kernel
theorem dX9_hasAct_12 : decode cX9_hasAct 12 = .ok (.iaload, 1) := by decide +kernel
theorem dX9_hasAct_13 : decode cX9_hasAct 13 = .ok (.if_icmp .ge 34, 3) := by decide +kernel
theorem dX9_hasAct_16 : decode cX9_hasAct 16 = .ok (.iload_n 3, 1) := by decide +kernel
theorem dX9_hasAct_17 : decode cX9_hasAct 17 = .ok (.ifCond .ne 18, 3) := by decide +kernel
theorem dX9_hasAct_20 : decode cX9_hasAct 20 = .ok (.aload_n 0, 1) := by decide +kernel
theorem dX9_hasAct_21 : decode cX9_hasAct 21 = .ok (.getfield 13, 3) := by decide +kernel
theorem dX9_hasAct_24 : decode cX9_hasAct 24 = .ok (.iconst 3, 1) := by decide +kernel
theorem dX9_hasAct_25 : decode cX9_hasAct 25 = .ok (.iload_n 1, 1) := by decide +kernel
theorem dX9_hasAct_26 : decode cX9_hasAct 26 = .ok (.imul, 1) := by decide +kernel
theorem dX9_hasAct_27 : decode cX9_hasAct 27 = .ok (.iload 4, 2) := by decide +kernel
theorem dX9_hasAct_29 : decode cX9_hasAct 29 = .ok (.iadd, 1) := by decide +kernel
theorem dX9_hasAct_30 : decode cX9_hasAct 30 = .ok (.iaload, 1) := by decide +kernel
theorem dX9_hasAct_31 : decode cX9_hasAct 31 = .ok (.iload_n 2, 1) := by decide +kernel
theorem dX9_hasAct_32 : decode cX9_hasAct 32 = .ok (.if_icmp .ne 7, 3) := by decide +kernel
theorem dX9_hasAct_35 : decode cX9_hasAct 35 = .ok (.iconst 1, 1) := by decide +kernel
theorem dX9_hasAct_36 : decode cX9_hasAct 36 = .ok (.goto 4, 3) := by decide +kernel
theorem dX9_hasAct_39 : decode cX9_hasAct 39 = .ok (.iconst 0, 1) := by decide +kernel
theorem dX9_hasAct_40 : decode cX9_hasAct 40 = .ok (.istore_n 3, 1) := by decide +kernel
theorem dX9_hasAct_41 : decode cX9_hasAct 41 = .ok (.iinc 4 1, 3) := by decide +kernel
theorem dX9_hasAct_44 : decode cX9_hasAct 44 = .ok (.goto (-39), 3) := by decide +kernel
theorem dX9_hasAct_47 : decode cX9_hasAct 47 = .ok (.iload_n 3, 1) := by decide +kernel
theorem dX9_hasAct_48 : decode cX9_hasAct 48 = .ok (.ireturn, 1) := by decide +kernel
theorem dX9_asks_0 : decode cX9_asks 0 = .ok (.iload_n 1, 1) := by decide +kernel
theorem dX9_asks_1 : decode cX9_asks 1 = .ok (.istore 8, 2) := by decide +kernel
theorem dX9_asks_3 : decode cX9_asks 3 = .ok (.iload 8, 2) := by decide +kernel
theorem dX9_asks_5 : decode cX9_asks 5 = .ok (.iload_n 1, 1) := by decide +kernel
theorem dX9_asks_6 : decode cX9_asks 6 = .ok (.iload_n 2, 1) := by decide +kernel
theorem dX9_asks_7 : decode cX9_asks 7 = .ok (.iadd, 1) := by decide +kernel
theorem dX9_asks_8 : decode cX9_asks 8 = .ok (.if_icmp .ge 68, 3) := by decide +kernel
theorem dX9_asks_11 : decode cX9_asks 11 = .ok (.aload_n 0, 1) := by decide +kernel
theorem dX9_asks_12 : decode cX9_asks 12 = .ok (.getfield 16, 3) := by decide +kernel
theorem dX9_asks_15 : decode cX9_asks 15 = .ok (.iload 8, 2) := by decide +kernel
theorem dX9_asks_17 : decode cX9_asks 17 = .ok (.iaload, 1) := by decide +kernel
theorem dX9_asks_18 : decode cX9_asks 18 = .ok (.iload 4, 2) := by decide +kernel
theorem dX9_asks_20 : decode cX9_asks 20 = .ok (.if_icmp .ne 50, 3) := by decide +kernel
theorem dX9_asks_23 : decode cX9_asks 23 = .ok (.aload_n 0, 1) := by decide +kernel
theorem dX9_asks_24 : decode cX9_asks 24 = .ok (.getfield 19, 3) := by decide +kernel
theorem dX9_asks_27 : decode cX9_asks 27 = .ok (.iload 8, 2) := by decide +kernel
theorem dX9_asks_29 : decode cX9_asks 29 = .ok (.iaload, 1) := by decide +kernel
theorem dX9_asks_30 : decode cX9_asks 30 = .ok (.iload 5, 2) := by decide +kernel
theorem dX9_asks_32 : decode cX9_asks 32 = .ok (.if_icmp .ne 38, 3) := by decide +kernel
theorem dX9_asks_35 : decode cX9_asks 35 = .ok (.aload_n 0, 1) := by decide +kernel
theorem dX9_asks_36 : decode cX9_asks 36 = .ok (.getfield 22, 3) := by decide +kernel
theorem dX9_asks_39 : decode cX9_asks 39 = .ok (.iload 8, 2) := by decide +kernel
theorem dX9_asks_41 : decode cX9_asks 41 = .ok (.iaload, 1) := by decide +kernel
theorem dX9_asks_42 : decode cX9_asks 42 = .ok (.iload 6, 2) := by decide +kernel
theorem dX9_asks_44 : decode cX9_asks 44 = .ok (.if_icmp .ne 26, 3) := by decide +kernel
theorem dX9_asks_47 : decode cX9_asks 47 = .ok (.aload_n 0, 1) := by decide +kernel
theorem dX9_asks_48 : decode cX9_asks 48 = .ok (.iload 8, 2) := by decide +kernel
theorem dX9_asks_50 : decode cX9_asks 50 = .ok (.iload 7, 2) := by decide +kernel
theorem dX9_asks_52 : decode cX9_asks 52 = .ok (.invokevirtual 333, 3) := by decide +kernel
theorem dX9_asks_55 : decode cX9_asks 55 = .ok (.ifCond .eq 15, 3) := by decide +kernel
theorem dX9_asks_58 : decode cX9_asks 58 = .ok (.aload_n 0, 1) := by decide +kernel
theorem dX9_asks_59 : decode cX9_asks 59 = .ok (.iload 8, 2) := by decide +kernel
theorem dX9_asks_61 : decode cX9_asks 61 = .ok (.iload_n 3, 1) := by decide +kernel
theorem dX9_asks_62 : decode cX9_asks 62 = .ok (.invokevirtual 336, 3) := by decide +kernel
theorem dX9_asks_65 : decode cX9_asks 65 = .ok (.ifCond .eq 5, 3) := by decide +kernel
theorem dX9_asks_68 : decode cX9_asks 68 = .ok (.iconst 1, 1) := by decide +kernel
theorem dX9_asks_69 : decode cX9_asks 69 = .ok (.ireturn, 1) := by decide +kernel
theorem dX9_asks_70 : decode cX9_asks 70 = .ok (.iinc 8 1, 3) := by decide +kernel
theorem dX9_asks_73 : decode cX9_asks 73 = .ok (.goto (-70), 3) := by decide +kernel
theorem dX9_asks_76 : decode cX9_asks 76 = .ok (.iconst 0, 1) := by decide +kernel
theorem dX9_asks_77 : decode cX9_asks 77 = .ok (.ireturn, 1) := by decide +kernel
theorem dX9_isWithin_0 : decode cX9_isWithin 0 = .ok (.iconst 0, 1) := by decide +kernel
theorem dX9_isWithin_1 : decode cX9_isWithin 1 = .ok (.istore 5, 2) := by decide +kernel
theorem dX9_isWithin_3 : decode cX9_isWithin 3 = .ok (.iload 5, 2) := by decide +kernel
theorem dX9_isWithin_5 : decode cX9_isWithin 5 = .ok (.bipush 64, 2) := by decide +kernel
theorem dX9_isWithin_7 : decode cX9_isWithin 7 = .ok (.if_icmp .ge 108, 3) := by decide +kernel
theorem dX9_isWithin_10 : decode cX9_isWithin 10 = .ok (.iload_n 1, 1) := by decide +kernel
theorem dX9_isWithin_11 : decode cX9_isWithin 11 = .ok (.istore 6, 2) := by decide +kernel
theorem dX9_isWithin_13 : decode cX9_isWithin 13 = .ok (.iload 6, 2) := by decide +kernel
theorem dX9_isWithin_15 : decode cX9_isWithin 15 = .ok (.iload_n 1, 1) := by decide +kernel
theorem dX9_isWithin_16 : decode cX9_isWithin 16 = .ok (.iload_n 2, 1) := by decide +kernel
theorem dX9_isWithin_17 : decode cX9_isWithin 17 = .ok (.iadd, 1) := by decide +kernel
theorem dX9_isWithin_18 : decode cX9_isWithin 18 = .ok (.if_icmp .ge 91, 3) := by decide +kernel
theorem dX9_isWithin_21 : decode cX9_isWithin 21 = .ok (.aload_n 0, 1) := by decide +kernel
theorem dX9_isWithin_22 : decode cX9_isWithin 22 = .ok (.iload 6, 2) := by decide +kernel
theorem dX9_isWithin_24 : decode cX9_isWithin 24 = .ok (.iload 5, 2) := by decide +kernel
theorem dX9_isWithin_26 : decode cX9_isWithin 26 = .ok (.invokevirtual 336, 3) := by decide +kernel
theorem dX9_isWithin_29 : decode cX9_isWithin 29 = .ok (.ifCond .ne 6, 3) := by decide +kernel
theorem dX9_isWithin_32 : decode cX9_isWithin 32 = .ok (.goto 71, 3) := by decide +kernel
theorem dX9_isWithin_35 : decode cX9_isWithin 35 = .ok (.iconst 0, 1) := by decide +kernel
theorem dX9_isWithin_36 : decode cX9_isWithin 36 = .ok (.istore 7, 2) := by decide +kernel
theorem dX9_isWithin_38 : decode cX9_isWithin 38 = .ok (.iload 7, 2) := by decide +kernel
theorem dX9_isWithin_40 : decode cX9_isWithin 40 = .ok (.aload_n 0, 1) := by decide +kernel
theorem dX9_isWithin_41 : decode cX9_isWithin 41 = .ok (.getfield 9, 3) := by decide +kernel
theorem dX9_isWithin_44 : decode cX9_isWithin 44 = .ok (.iload 6, 2) := by decide +kernel
theorem dX9_isWithin_46 : decode cX9_isWithin 46 = .ok (.iaload, 1) := by decide +kernel
theorem dX9_isWithin_47 : decode cX9_isWithin 47 = .ok (.if_icmp .ge 56, 3) := by decide +kernel
theorem dX9_isWithin_50 : decode cX9_isWithin 50 = .ok (.aload_n 0, 1) := by decide +kernel
theorem dX9_isWithin_51 : decode cX9_isWithin 51 = .ok (.iload_n 3, 1) := by decide +kernel
theorem dX9_isWithin_52 : decode cX9_isWithin 52 = .ok (.iload 4, 2) := by decide +kernel
theorem dX9_isWithin_54 : decode cX9_isWithin 54 = .ok (.iload 5, 2) := by decide +kernel
theorem dX9_isWithin_56 : decode cX9_isWithin 56 = .ok (.aload_n 0, 1) := by decide +kernel
theorem dX9_isWithin_57 : decode cX9_isWithin 57 = .ok (.getfield 16, 3) := by decide +kernel
theorem dX9_isWithin_60 : decode cX9_isWithin 60 = .ok (.iload 6, 2) := by decide +kernel
theorem dX9_isWithin_62 : decode cX9_isWithin 62 = .ok (.iaload, 1) := by decide +kernel
theorem dX9_isWithin_63 : decode cX9_isWithin 63 = .ok (.aload_n 0, 1) := by decide +kernel
theorem dX9_isWithin_64 : decode cX9_isWithin 64 = .ok (.getfield 19, 3) := by decide +kernel
theorem dX9_isWithin_67 : decode cX9_isWithin 67 = .ok (.iload 6, 2) := by decide +kernel
theorem dX9_isWithin_69 : decode cX9_isWithin 69 = .ok (.iaload, 1) := by decide +kernel
theorem dX9_isWithin_70 : decode cX9_isWithin 70 = .ok (.aload_n 0, 1) := by decide +kernel
theorem dX9_isWithin_71 : decode cX9_isWithin 71 = .ok (.getfield 22, 3) := by decide +kernel
theorem dX9_isWithin_74 : decode cX9_isWithin 74 = .ok (.iload 6, 2) := by decide +kernel
theorem dX9_isWithin_76 : decode cX9_isWithin 76 = .ok (.iaload, 1) := by decide +kernel
theorem dX9_isWithin_77 : decode cX9_isWithin 77 = .ok (.aload_n 0, 1) := by decide +kernel
theorem dX9_isWithin_78 : decode cX9_isWithin 78 = .ok (.getfield 13, 3) := by decide +kernel
theorem dX9_isWithin_81 : decode cX9_isWithin 81 = .ok (.iconst 3, 1) := by decide +kernel
theorem dX9_isWithin_82 : decode cX9_isWithin 82 = .ok (.iload 6, 2) := by decide +kernel
theorem dX9_isWithin_84 : decode cX9_isWithin 84 = .ok (.imul, 1) := by decide +kernel
theorem dX9_isWithin_85 : decode cX9_isWithin 85 = .ok (.iload 7, 2) := by decide +kernel
theorem dX9_isWithin_87 : decode cX9_isWithin 87 = .ok (.iadd, 1) := by decide +kernel
theorem dX9_isWithin_88 : decode cX9_isWithin 88 = .ok (.iaload, 1) := by decide +kernel
theorem dX9_isWithin_89 : decode cX9_isWithin 89 = .ok (.invokevirtual 339, 3) := by decide +kernel
theorem dX9_isWithin_92 : decode cX9_isWithin 92 = .ok (.ifCond .ne 5, 3) := by decide +kernel
theorem dX9_isWithin_95 : decode cX9_isWithin 95 = .ok (.iconst 0, 1) := by decide +kernel
theorem dX9_isWithin_96 : decode cX9_isWithin 96 = .ok (.ireturn, 1) := by decide +kernel
theorem dX9_isWithin_97 : decode cX9_isWithin 97 = .ok (.iinc 7 1, 3) := by decide +kernel
theorem dX9_isWithin_100 : decode cX9_isWithin 100 = .ok (.goto (-62), 3) := by decide +kernel
theorem dX9_isWithin_103 : decode cX9_isWithin 103 = .ok (.iinc 6 1, 3) := by decide +kernel
theorem dX9_isWithin_106 : decode cX9_isWithin 106 = .ok (.goto (-93), 3) := by decide +kernel
theorem dX9_isWithin_109 : decode cX9_isWithin 109 = .ok (.iinc 5 1, 3) := by decide +kernel
theorem dX9_isWithin_112 : decode cX9_isWithin 112 = .ok (.goto (-109), 3) := by decide +kernel
theorem dX9_isWithin_115 : decode cX9_isWithin 115 = .ok (.iconst 1, 1) := by decide +kernel
theorem dX9_isWithin_116 : decode cX9_isWithin 116 = .ok (.ireturn, 1) := by decide +kernel
theorem dX9_same_0 : decode cX9_same 0 = .ok (.aload_n 0, 1) := by decide +kernel
theorem dX9_same_1 : decode cX9_same 1 = .ok (.iconst 0, 1) := by decide +kernel
theorem dX9_same_2 : decode cX9_same 2 = .ok (.putfield 59, 3) := by decide +kernel
theorem dX9_same_5 : decode cX9_same 5 = .ok (.aload_n 0, 1) := by decide +kernel
theorem dX9_same_6 : decode cX9_same 6 = .ok (.aload_n 0, 1) := by decide +kernel
theorem dX9_same_7 : decode cX9_same 7 = .ok (.getfield 219, 3) := by decide +kernel
theorem dX9_same_10 : decode cX9_same 10 = .ok (.ifCond .ne 7, 3) := by decide +kernel
theorem dX9_same_13 : decode cX9_same 13 = .ok (.iconst 1, 1) := by decide +kernel
theorem dX9_same_14 : decode cX9_same 14 = .ok (.goto 4, 3) := by decide +kernel
theorem dX9_same_17 : decode cX9_same 17 = .ok (.iconst 0, 1) := by decide +kernel
theorem dX9_same_18 : decode cX9_same 18 = .ok (.iconst 1, 1) := by decide +kernel
theorem dX9_same_19 : decode cX9_same 19 = .ok (.invokevirtual 209, 3) := by decide +kernel
theorem dX9_same_22 : decode cX9_same 22 = .ok (.ifCond .eq 5, 3) := by decide +kernel
theorem dX9_same_25 : decode cX9_same 25 = .ok (.iconst 0, 1) := by decide +kernel
theorem dX9_same_26 : decode cX9_same 26 = .ok (.ireturn, 1) := by decide +kernel
theorem dX9_same_27 : decode cX9_same 27 = .ok (.aload_n 0, 1) := by decide +kernel
theorem dX9_same_28 : decode cX9_same 28 = .ok (.iconst 0, 1) := by decide +kernel
theorem dX9_same_29 : decode cX9_same 29 = .ok (.aload_n 0, 1) := by decide +kernel
theorem dX9_same_30 : decode cX9_same 30 = .ok (.getfield 216, 3) := by decide +kernel
theorem dX9_same_33 : decode cX9_same 33 = .ok (.bipush 24, 2) := by decide +kernel
theorem dX9_same_35 : decode cX9_same 35 = .ok (.aload_n 0, 1) := by decide +kernel
theorem dX9_same_36 : decode cX9_same 36 = .ok (.getfield 232, 3) := by decide +kernel
theorem dX9_same_39 : decode cX9_same 39 = .ok (.invokevirtual 343, 3) := by decide +kernel
theorem dX9_same_42 : decode cX9_same 42 = .ok (.ifCond .eq 25, 3) := by decide +kernel
theorem dX9_same_45 : decode cX9_same 45 = .ok (.aload_n 0, 1) := by decide +kernel
theorem dX9_same_46 : decode cX9_same 46 = .ok (.bipush 24, 2) := by decide +kernel
theorem dX9_same_48 : decode cX9_same 48 = .ok (.aload_n 0, 1) := by decide +kernel
theorem dX9_same_49 : decode cX9_same 49 = .ok (.getfield 232, 3) := by decide +kernel
theorem dX9_same_52 : decode cX9_same 52 = .ok (.iconst 0, 1) := by decide +kernel
theorem dX9_same_53 : decode cX9_same 53 = .ok (.aload_n 0, 1) := by decide +kernel
theorem dX9_same_54 : decode cX9_same 54 = .ok (.getfield 216, 3) := by decide +kernel
theorem dX9_same_57 : decode cX9_same 57 = .ok (.invokevirtual 343, 3) := by decide +kernel
theorem dX9_same_60 : decode cX9_same 60 = .ok (.ifCond .eq 7, 3) := by decide +kernel
theorem dX9_same_63 : decode cX9_same 63 = .ok (.iconst 1, 1) := by decide +kernel
theorem dX9_same_64 : decode cX9_same 64 = .ok (.goto 4, 3) := by decide +kernel
theorem dX9_same_67 : decode cX9_same 67 = .ok (.iconst 0, 1) := by decide +kernel
theorem dX9_same_68 : decode cX9_same 68 = .ok (.ireturn, 1) := by decide +kernel
theorem dX9_ask_0 : decode cX9_ask 0 = .ok (.aload_n 0, 1) := by decide +kernel
theorem dX9_ask_1 : decode cX9_ask 1 = .ok (.iconst 0, 1) := by decide +kernel
theorem dX9_ask_2 : decode cX9_ask 2 = .ok (.putfield 59, 3) := by decide +kernel
theorem dX9_ask_5 : decode cX9_ask 5 = .ok (.aload_n 0, 1) := by decide +kernel
theorem dX9_ask_6 : decode cX9_ask 6 = .ok (.aload_n 0, 1) := by decide +kernel
theorem dX9_ask_7 : decode cX9_ask 7 = .ok (.getfield 219, 3) := by decide +kernel
theorem dX9_ask_10 : decode cX9_ask 10 = .ok (.ifCond .ne 7, 3) := by decide +kernel
theorem dX9_ask_13 : decode cX9_ask 13 = .ok (.iconst 1, 1) := by decide +kernel
theorem dX9_ask_14 : decode cX9_ask 14 = .ok (.goto 4, 3) := by decide +kernel
theorem dX9_ask_17 : decode cX9_ask 17 = .ok (.iconst 0, 1) := by decide +kernel
theorem dX9_ask_18 : decode cX9_ask 18 = .ok (.iconst 1, 1) := by decide +kernel
theorem dX9_ask_19 : decode cX9_ask 19 = .ok (.invokevirtual 209, 3) := by decide +kernel
theorem dX9_ask_22 : decode cX9_ask 22 = .ok (.ifCond .eq 5, 3) := by decide +kernel
theorem dX9_ask_25 : decode cX9_ask 25 = .ok (.iconst 0, 1) := by decide +kernel
theorem dX9_ask_26 : decode cX9_ask 26 = .ok (.ireturn, 1) := by decide +kernel
theorem dX9_ask_27 : decode cX9_ask 27 = .ok (.iconst 0, 1) := by decide +kernel
theorem dX9_ask_28 : decode cX9_ask 28 = .ok (.istore 5, 2) := by decide +kernel
theorem dX9_ask_30 : decode cX9_ask 30 = .ok (.iload_n 1, 1) := by decide +kernel
theorem dX9_ask_31 : decode cX9_ask 31 = .ok (.ifCond .eq 7, 3) := by decide +kernel
theorem dX9_ask_34 : decode cX9_ask 34 = .ok (.iconst 0, 1) := by decide +kernel
theorem dX9_ask_35 : decode cX9_ask 35 = .ok (.goto 5, 3) := by decide +kernel
theorem dX9_ask_38 : decode cX9_ask 38 = .ok (.bipush 24, 2) := by decide +kernel
theorem dX9_ask_40 : decode cX9_ask 40 = .ok (.istore 6, 2) := by decide +kernel
theorem dX9_ask_42 : decode cX9_ask 42 = .ok (.iload 6, 2) := by decide +kernel
theorem dX9_ask_44 : decode cX9_ask 44 = .ok (.istore 7, 2) := by decide +kernel
theorem dX9_ask_46 : decode cX9_ask 46 = .ok (.iload 7, 2) := by decide +kernel
theorem dX9_ask_48 : decode cX9_ask 48 = .ok (.iload 6, 2) := by decide +kernel
theorem dX9_ask_50 : decode cX9_ask 50 = .ok (.iload_n 1, 1) := by decide +kernel
theorem dX9_ask_51 : decode cX9_ask 51 = .ok (.ifCond .eq 10, 3) := by decide +kernel
theorem dX9_ask_54 : decode cX9_ask 54 = .ok (.aload_n 0, 1) := by decide +kernel
theorem dX9_ask_55 : decode cX9_ask 55 = .ok (.getfield 216, 3) := by decide +kernel
theorem dX9_ask_58 : decode cX9_ask 58 = .ok (.goto 7, 3) := by decide +kernel
theorem dX9_ask_61 : decode cX9_ask 61 = .ok (.aload_n 0, 1) := by decide +kernel
theorem dX9_ask_62 : decode cX9_ask 62 = .ok (.getfield 232, 3) := by decide +kernel
theorem dX9_ask_65 : decode cX9_ask 65 = .ok (.iadd, 1) := by decide +kernel
theorem dX9_ask_66 : decode cX9_ask 66 = .ok (.if_icmp .ge 55, 3) := by decide +kernel
theorem dX9_ask_69 : decode cX9_ask 69 = .ok (.aload_n 0, 1) := by decide +kernel
theorem dX9_ask_70 : decode cX9_ask 70 = .ok (.getfield 16, 3) := by decide +kernel
theorem dX9_ask_73 : decode cX9_ask 73 = .ok (.iload 7, 2) := by decide +kernel
theorem dX9_ask_75 : decode cX9_ask 75 = .ok (.iaload, 1) := by decide +kernel
theorem dX9_ask_76 : decode cX9_ask 76 = .ok (.iload_n 2, 1) := by decide +kernel
theorem dX9_ask_77 : decode cX9_ask 77 = .ok (.if_icmp .ne 38, 3) := by decide +kernel
theorem dX9_ask_80 : decode cX9_ask 80 = .ok (.aload_n 0, 1) := by decide +kernel
theorem dX9_ask_81 : decode cX9_ask 81 = .ok (.iload 7, 2) := by decide +kernel
theorem dX9_ask_83 : decode cX9_ask 83 = .ok (.iload_n 3, 1) := by decide +kernel
theorem dX9_ask_84 : decode cX9_ask 84 = .ok (.invokevirtual 333, 3) := by decide +kernel
theorem dX9_ask_87 : decode cX9_ask 87 = .ok (.ifCond .eq 28, 3) := by decide +kernel
theorem dX9_ask_90 : decode cX9_ask 90 = .ok (.aload_n 0, 1) := by decide +kernel
theorem dX9_ask_91 : decode cX9_ask 91 = .ok (.iload 7, 2) := by decide +kernel
theorem dX9_ask_93 : decode cX9_ask 93 = .ok (.iload 4, 2) := by decide +kernel
theorem dX9_ask_95 : decode cX9_ask 95 = .ok (.invokevirtual 336, 3) := by decide +kernel
theorem dX9_ask_98 : decode cX9_ask 98 = .ok (.ifCond .eq 17, 3) := by decide +kernel
theorem dX9_ask_101 : decode cX9_ask 101 = .ok (.iload 5, 2) := by decide +kernel
theorem dX9_ask_103 : decode cX9_ask 103 = .ok (.iconst 1, 1) := by decide +kernel
theorem dX9_ask_104 : decode cX9_ask 104 = .ok (.aload_n 0, 1) := by decide +kernel
theorem dX9_ask_105 : decode cX9_ask 105 = .ok (.getfield 19, 3) := by decide +kernel
theorem dX9_ask_108 : decode cX9_ask 108 = .ok (.iload 7, 2) := by decide +kernel
theorem dX9_ask_110 : decode cX9_ask 110 = .ok (.iaload, 1) := by decide +kernel
theorem dX9_ask_111 : decode cX9_ask 111 = .ok (.ishl, 1) := by decide +kernel
theorem dX9_ask_112 : decode cX9_ask 112 = .ok (.ior, 1) := by decide +kernel
theorem dX9_ask_113 : decode cX9_ask 113 = .ok (.istore 5, 2) := by decide +kernel
theorem dX9_ask_115 : decode cX9_ask 115 = .ok (.iinc 7 1, 3) := by decide +kernel
theorem dX9_ask_118 : decode cX9_ask 118 = .ok (.goto (-72), 3) := by decide +kernel
theorem dX9_ask_121 : decode cX9_ask 121 = .ok (.iload 5, 2) := by decide +kernel
theorem dX9_ask_123 : decode cX9_ask 123 = .ok (.ireturn, 1) := by decide +kernel
theorem dX9_days_0 : decode cX9_days 0 = .ok (.aload_n 0, 1) := by decide +kernel
theorem dX9_days_1 : decode cX9_days 1 = .ok (.iconst 0, 1) := by decide +kernel
theorem dX9_days_2 : decode cX9_days 2 = .ok (.putfield 59, 3) := by decide +kernel
theorem dX9_days_5 : decode cX9_days 5 = .ok (.aload_n 0, 1) := by decide +kernel
theorem dX9_days_6 : decode cX9_days 6 = .ok (.aload_n 0, 1) := by decide +kernel
theorem dX9_days_7 : decode cX9_days 7 = .ok (.getfield 219, 3) := by decide +kernel
theorem dX9_days_10 : decode cX9_days 10 = .ok (.ifCond .ne 7, 3) := by decide +kernel
theorem dX9_days_13 : decode cX9_days 13 = .ok (.iconst 1, 1) := by decide +kernel
theorem dX9_days_14 : decode cX9_days 14 = .ok (.goto 4, 3) := by decide +kernel
theorem dX9_days_17 : decode cX9_days 17 = .ok (.iconst 0, 1) := by decide +kernel
theorem dX9_days_18 : decode cX9_days 18 = .ok (.iconst 1, 1) := by decide +kernel
theorem dX9_days_19 : decode cX9_days 19 = .ok (.invokevirtual 209, 3) := by decide +kernel
theorem dX9_days_22 : decode cX9_days 22 = .ok (.ifCond .eq 5, 3) := by decide +kernel
theorem dX9_days_25 : decode cX9_days 25 = .ok (.iconst 0, 1) := by decide +kernel
theorem dX9_days_26 : decode cX9_days 26 = .ok (.ireturn, 1) := by decide +kernel
theorem dX9_days_27 : decode cX9_days 27 = .ok (.iconst (-1), 1) := by decide +kernel
theorem dX9_days_28 : decode cX9_days 28 = .ok (.istore 4, 2) := by decide +kernel
theorem dX9_days_30 : decode cX9_days 30 = .ok (.bipush 24, 2) := by decide +kernel
theorem dX9_days_32 : decode cX9_days 32 = .ok (.istore 5, 2) := by decide +kernel
theorem dX9_days_34 : decode cX9_days 34 = .ok (.iload 5, 2) := by decide +kernel
theorem dX9_days_36 : decode cX9_days 36 = .ok (.bipush 24, 2) := by decide +kernel
theorem dX9_days_38 : decode cX9_days 38 = .ok (.aload_n 0, 1) := by decide +kernel
theorem dX9_days_39 : decode cX9_days 39 = .ok (.getfield 232, 3) := by decide +kernel
theorem dX9_days_42 : decode cX9_days 42 = .ok (.iadd, 1) := by decide +kernel
theorem dX9_days_43 : decode cX9_days 43 = .ok (.if_icmp .ge 92, 3) := by decide +kernel
theorem dX9_days_46 : decode cX9_days 46 = .ok (.aload_n 0, 1) := by decide +kernel
theorem dX9_days_47 : decode cX9_days 47 = .ok (.getfield 16, 3) := by decide +kernel
theorem dX9_days_50 : decode cX9_days 50 = .ok (.iload 5, 2) := by decide +kernel
theorem dX9_days_52 : decode cX9_days 52 = .ok (.iaload, 1) := by decide +kernel
theorem dX9_days_53 : decode cX9_days 53 = .ok (.iload_n 1, 1) := by decide +kernel
theorem dX9_days_54 : decode cX9_days 54 = .ok (.if_icmp .ne 75, 3) := by decide +kernel
theorem dX9_days_57 : decode cX9_days 57 = .ok (.aload_n 0, 1) := by decide +kernel
theorem dX9_days_58 : decode cX9_days 58 = .ok (.getfield 19, 3) := by decide +kernel
theorem dX9_days_61 : decode cX9_days 61 = .ok (.iload 5, 2) := by decide +kernel
theorem dX9_days_63 : decode cX9_days 63 = .ok (.iaload, 1) := by decide +kernel
theorem dX9_days_64 : decode cX9_days 64 = .ok (.ifCond .ne 65, 3) := by decide +kernel
theorem dX9_days_67 : decode cX9_days 67 = .ok (.aload_n 0, 1) := by decide +kernel
theorem dX9_days_68 : decode cX9_days 68 = .ok (.getfield 22, 3) := by decide +kernel
theorem dX9_days_71 : decode cX9_days 71 = .ok (.iload 5, 2) := by decide +kernel
theorem dX9_days_73 : decode cX9_days 73 = .ok (.iaload, 1) := by decide +kernel
theorem dX9_days_74 : decode cX9_days 74 = .ok (.ifCond .lt 55, 3) := by decide +kernel
theorem dX9_days_77 : decode cX9_days 77 = .ok (.aload_n 0, 1) := by decide +kernel
theorem dX9_days_78 : decode cX9_days 78 = .ok (.iload 5, 2) := by decide +kernel
theorem dX9_days_80 : decode cX9_days 80 = .ok (.iload_n 2, 1) := by decide +kernel
theorem dX9_days_81 : decode cX9_days 81 = .ok (.invokevirtual 333, 3) := by decide +kernel
theorem dX9_days_84 : decode cX9_days 84 = .ok (.ifCond .eq 45, 3) := by decide +kernel
theorem dX9_days_87 : decode cX9_days 87 = .ok (.aload_n 0, 1) := by decide +kernel
theorem dX9_days_88 : decode cX9_days 88 = .ok (.iload 5, 2) := by decide +kernel
theorem dX9_days_90 : decode cX9_days 90 = .ok (.iload_n 3, 1) := by decide +kernel
theorem dX9_days_91 : decode cX9_days 91 = .ok (.invokevirtual 336, 3) := by decide +kernel
theorem dX9_days_94 : decode cX9_days 94 = .ok (.ifCond .ne 6, 3) := by decide +kernel
theorem dX9_days_97 : decode cX9_days 97 = .ok (.goto 32, 3) := by decide +kernel
theorem dX9_days_100 : decode cX9_days 100 = .ok (.iload 4, 2) := by decide +kernel
theorem dX9_days_102 : decode cX9_days 102 = .ok (.ifCond .ge 13, 3) := by decide +kernel
theorem dX9_days_105 : decode cX9_days 105 = .ok (.aload_n 0, 1) := by decide +kernel
theorem dX9_days_106 : decode cX9_days 106 = .ok (.getfield 22, 3) := by decide +kernel
theorem dX9_days_109 : decode cX9_days 109 = .ok (.iload 5, 2) := by decide +kernel
theorem dX9_days_111 : decode cX9_days 111 = .ok (.iaload, 1) := by decide +kernel
theorem dX9_days_112 : decode cX9_days 112 = .ok (.goto 15, 3) := by decide +kernel
theorem dX9_days_115 : decode cX9_days 115 = .ok (.iload 4, 2) := by decide +kernel
theorem dX9_days_117 : decode cX9_days 117 = .ok (.aload_n 0, 1) := by decide +kernel
theorem dX9_days_118 : decode cX9_days 118 = .ok (.getfield 22, 3) := by decide +kernel
theorem dX9_days_121 : decode cX9_days 121 = .ok (.iload 5, 2) := by decide +kernel
theorem dX9_days_123 : decode cX9_days 123 = .ok (.iaload, 1) := by decide +kernel
theorem dX9_days_124 : decode cX9_days 124 = .ok (.invokestatic 347, 3) := by decide +kernel
theorem dX9_days_127 : decode cX9_days 127 = .ok (.istore 4, 2) := by decide +kernel
theorem dX9_days_129 : decode cX9_days 129 = .ok (.iinc 5 1, 3) := by decide +kernel
theorem dX9_days_132 : decode cX9_days 132 = .ok (.goto (-98), 3) := by decide +kernel
theorem dX9_days_135 : decode cX9_days 135 = .ok (.iload 4, 2) := by decide +kernel
theorem dX9_days_137 : decode cX9_days 137 = .ok (.ireturn, 1) := by decide +kernel
theorem dX9_look_0 : decode cX9_look 0 = .ok (.aload_n 0, 1) := by decide +kernel
theorem dX9_look_1 : decode cX9_look 1 = .ok (.iconst 0, 1) := by decide +kernel
theorem dX9_look_2 : decode cX9_look 2 = .ok (.putfield 59, 3) := by decide +kernel
theorem dX9_look_5 : decode cX9_look 5 = .ok (.aload_n 0, 1) := by decide +kernel
theorem dX9_look_6 : decode cX9_look 6 = .ok (.iload_n 1, 1) := by decide +kernel
theorem dX9_look_7 : decode cX9_look 7 = .ok (.invokevirtual 301, 3) := by decide +kernel
theorem dX9_look_10 : decode cX9_look 10 = .ok (.ifCond .eq 5, 3) := by decide +kernel
theorem dX9_look_13 : decode cX9_look 13 = .ok (.iconst 0, 1) := by decide +kernel
theorem dX9_look_14 : decode cX9_look 14 = .ok (.ireturn, 1) := by decide +kernel
theorem dX9_look_15 : decode cX9_look 15 = .ok (.bipush 24, 2) := by decide +kernel
theorem dX9_look_17 : decode cX9_look 17 = .ok (.iload_n 1, 1) := by decide +kernel
theorem dX9_look_18 : decode cX9_look 18 = .ok (.iadd, 1) := by decide +kernel
theorem dX9_look_19 : decode cX9_look 19 = .ok (.istore_n 3, 1) := by decide +kernel
theorem dX9_look_20 : decode cX9_look 20 = .ok (.iload_n 2, 1) := by decide +kernel
theorem dX9_look_21 : decode cX9_look 21 = .ok (.tableswitch 131 0 8 #[51, 58, 65, 72, 79, 94, 100, 106, 112], 51) := by decide +kernel
theorem dX9_look_72 : decode cX9_look 72 = .ok (.aload_n 0, 1) := by decide +kernel
theorem dX9_look_73 : decode cX9_look 73 = .ok (.getfield 9, 3) := by decide +kernel
theorem dX9_look_76 : decode cX9_look 76 = .ok (.iload_n 3, 1) := by decide +kernel
theorem dX9_look_77 : decode cX9_look 77 = .ok (.iaload, 1) := by decide +kernel
theorem dX9_look_78 : decode cX9_look 78 = .ok (.ireturn, 1) := by decide +kernel
theorem dX9_look_79 : decode cX9_look 79 = .ok (.aload_n 0, 1) := by decide +kernel
theorem dX9_look_80 : decode cX9_look 80 = .ok (.getfield 16, 3) := by decide +kernel
theorem dX9_look_83 : decode cX9_look 83 = .ok (.iload_n 3, 1) := by decide +kernel
theorem dX9_look_84 : decode cX9_look 84 = .ok (.iaload, 1) := by decide +kernel
theorem dX9_look_85 : decode cX9_look 85 = .ok (.ireturn, 1) := by decide +kernel
theorem dX9_look_86 : decode cX9_look 86 = .ok (.aload_n 0, 1) := by decide +kernel
theorem dX9_look_87 : decode cX9_look 87 = .ok (.getfield 19, 3) := by decide +kernel
theorem dX9_look_90 : decode cX9_look 90 = .ok (.iload_n 3, 1) := by decide +kernel
theorem dX9_look_91 : decode cX9_look 91 = .ok (.iaload, 1) := by decide +kernel
theorem dX9_look_92 : decode cX9_look 92 = .ok (.ireturn, 1) := by decide +kernel
theorem dX9_look_93 : decode cX9_look 93 = .ok (.aload_n 0, 1) := by decide +kernel
theorem dX9_look_94 : decode cX9_look 94 = .ok (.getfield 22, 3) := by decide +kernel
theorem dX9_look_97 : decode cX9_look 97 = .ok (.iload_n 3, 1) := by decide +kernel
theorem dX9_look_98 : decode cX9_look 98 = .ok (.iaload, 1) := by decide +kernel
theorem dX9_look_99 : decode cX9_look 99 = .ok (.ireturn, 1) := by decide +kernel
theorem dX9_look_100 : decode cX9_look 100 = .ok (.aload_n 0, 1) := by decide +kernel
theorem dX9_look_101 : decode cX9_look 101 = .ok (.getfield 25, 3) := by decide +kernel
theorem dX9_look_104 : decode cX9_look 104 = .ok (.iload_n 3, 1) := by decide +kernel
theorem dX9_look_105 : decode cX9_look 105 = .ok (.baload, 1) := by decide +kernel
theorem dX9_look_106 : decode cX9_look 106 = .ok (.ifCond .eq 7, 3) := by decide +kernel
theorem dX9_look_109 : decode cX9_look 109 = .ok (.iconst 1, 1) := by decide +kernel
theorem dX9_look_110 : decode cX9_look 110 = .ok (.goto 4, 3) := by decide +kernel
theorem dX9_look_113 : decode cX9_look 113 = .ok (.iconst 0, 1) := by decide +kernel
theorem dX9_look_114 : decode cX9_look 114 = .ok (.ireturn, 1) := by decide +kernel
theorem dX9_look_115 : decode cX9_look 115 = .ok (.aload_n 0, 1) := by decide +kernel
theorem dX9_look_116 : decode cX9_look 116 = .ok (.iload_n 3, 1) := by decide +kernel
theorem dX9_look_117 : decode cX9_look 117 = .ok (.invokevirtual 280, 3) := by decide +kernel
theorem dX9_look_120 : decode cX9_look 120 = .ok (.ireturn, 1) := by decide +kernel
theorem dX9_look_121 : decode cX9_look 121 = .ok (.aload_n 0, 1) := by decide +kernel
theorem dX9_look_122 : decode cX9_look 122 = .ok (.iload_n 3, 1) := by decide +kernel
theorem dX9_look_123 : decode cX9_look 123 = .ok (.invokevirtual 286, 3) := by decide +kernel
theorem dX9_look_126 : decode cX9_look 126 = .ok (.ireturn, 1) := by decide +kernel
theorem dX9_look_127 : decode cX9_look 127 = .ok (.aload_n 0, 1) := by decide +kernel
theorem dX9_look_128 : decode cX9_look 128 = .ok (.iload_n 3, 1) := by decide +kernel
theorem dX9_look_129 : decode cX9_look 129 = .ok (.invokevirtual 283, 3) := by decide +kernel
theorem dX9_look_132 : decode cX9_look 132 = .ok (.ireturn, 1) := by decide +kernel
theorem dX9_look_133 : decode cX9_look 133 = .ok (.aload_n 0, 1) := by decide +kernel
theorem dX9_look_134 : decode cX9_look 134 = .ok (.getfield 29, 3) := by decide +kernel
theorem dX9_look_137 : decode cX9_look 137 = .ok (.iconst 2, 1) := by decide +kernel
theorem dX9_look_138 : decode cX9_look 138 = .ok (.iload_n 3, 1) := by decide +kernel
theorem dX9_look_139 : decode cX9_look 139 = .ok (.imul, 1) := by decide +kernel
theorem dX9_look_140 : decode cX9_look 140 = .ok (.iconst 1, 1) := by decide +kernel
theorem dX9_look_141 : decode cX9_look 141 = .ok (.iadd, 1) := by decide +kernel
theorem dX9_look_142 : decode cX9_look 142 = .ok (.iaload, 1) := by decide +kernel
theorem dX9_look_143 : decode cX9_look 143 = .ok (.ifCond .le 7, 3) := by decide +kernel
theorem dX9_look_146 : decode cX9_look 146 = .ok (.iconst 1, 1) := by decide +kernel
theorem dX9_look_147 : decode cX9_look 147 = .ok (.goto 4, 3) := by decide +kernel
theorem dX9_look_150 : decode cX9_look 150 = .ok (.iconst 0, 1) := by decide +kernel
theorem dX9_look_151 : decode cX9_look 151 = .ok (.ireturn, 1) := by decide +kernel
theorem dX9_look_152 : decode cX9_look 152 = .ok (.aload_n 0, 1) := by decide +kernel
theorem dX9_look_153 : decode cX9_look 153 = .ok (.iconst 3, 1) := by decide +kernel
theorem dX9_look_154 : decode cX9_look 154 = .ok (.putfield 59, 3) := by decide +kernel
theorem dX9_look_157 : decode cX9_look 157 = .ok (.iconst 0, 1) := by decide +kernel
theorem dX9_look_158 : decode cX9_look 158 = .ok (.ireturn, 1) := by decide +kernel
theorem dX9_count_0 : decode cX9_count 0 = .ok (.aload_n 0, 1) := by decide +kernel
theorem dX9_count_1 : decode cX9_count 1 = .ok (.iconst 0, 1) := by decide +kernel
theorem dX9_count_2 : decode cX9_count 2 = .ok (.putfield 59, 3) := by decide +kernel
theorem dX9_count_5 : decode cX9_count 5 = .ok (.iload_n 1, 1) := by decide +kernel
theorem dX9_count_6 : decode cX9_count 6 = .ok (.tableswitch 81 0 4 #[34, 50, 66, 71, 76], 34) := by decide +kernel
theorem dX9_count_40 : decode cX9_count 40 = .ok (.aload_n 0, 1) := by decide +kernel
theorem dX9_count_41 : decode cX9_count 41 = .ok (.getfield 219, 3) := by decide +kernel
theorem dX9_count_44 : decode cX9_count 44 = .ok (.ifCond .eq 10, 3) := by decide +kernel
theorem dX9_count_47 : decode cX9_count 47 = .ok (.aload_n 0, 1) := by decide +kernel
theorem dX9_count_48 : decode cX9_count 48 = .ok (.getfield 216, 3) := by decide +kernel
theorem dX9_count_51 : decode cX9_count 51 = .ok (.goto 4, 3) := by decide +kernel
theorem dX9_count_54 : decode cX9_count 54 = .ok (.iconst 0, 1) := by decide +kernel
theorem dX9_count_55 : decode cX9_count 55 = .ok (.ireturn, 1) := by decide +kernel
theorem dX9_count_56 : decode cX9_count 56 = .ok (.aload_n 0, 1) := by decide +kernel
theorem dX9_count_57 : decode cX9_count 57 = .ok (.getfield 219, 3) := by decide +kernel
theorem dX9_count_60 : decode cX9_count 60 = .ok (.ifCond .eq 10, 3) := by decide +kernel
theorem dX9_count_63 : decode cX9_count 63 = .ok (.aload_n 0, 1) := by decide +kernel
theorem dX9_count_64 : decode cX9_count 64 = .ok (.getfield 232, 3) := by decide +kernel
theorem dX9_count_67 : decode cX9_count 67 = .ok (.goto 4, 3) := by decide +kernel
theorem dX9_count_70 : decode cX9_count 70 = .ok (.iconst 0, 1) := by decide +kernel
theorem dX9_count_71 : decode cX9_count 71 = .ok (.ireturn, 1) := by decide +kernel
theorem dX9_count_72 : decode cX9_count 72 = .ok (.aload_n 0, 1) := by decide +kernel
theorem dX9_count_73 : decode cX9_count 73 = .ok (.getfield 96, 3) := by decide +kernel
theorem dX9_count_76 : decode cX9_count 76 = .ok (.ireturn, 1) := by decide +kernel
theorem dX9_count_77 : decode cX9_count 77 = .ok (.aload_n 0, 1) := by decide +kernel
theorem dX9_count_78 : decode cX9_count 78 = .ok (.getfield 223, 3) := by decide +kernel
theorem dX9_count_81 : decode cX9_count 81 = .ok (.ireturn, 1) := by decide +kernel
theorem dX9_count_82 : decode cX9_count 82 = .ok (.aload_n 0, 1) := by decide +kernel
theorem dX9_count_83 : decode cX9_count 83 = .ok (.getfield 226, 3) := by decide +kernel
theorem dX9_count_86 : decode cX9_count 86 = .ok (.ireturn, 1) := by decide +kernel
theorem dX9_count_87 : decode cX9_count 87 = .ok (.iconst (-1), 1) := by decide +kernel
theorem dX9_count_88 : decode cX9_count 88 = .ok (.ireturn, 1) := by decide +kernel
