theorem dX0_init_0 : decode cX0_init 0 = .ok (.aload_n 0, 1) := by decide +kernel
theorem dX0_init_1 : decode cX0_init 1 = .ok (.invokespecial 3, 3) := by decide +kernel
theorem dX0_init_4 : decode cX0_init 4 = .ok (.aload_n 0, 1) := by decide +kernel
theorem dX0_init_5 : decode cX0_init 5 = .ok (.iconst 3, 1) := by decide +kernel
theorem dX0_init_6 : decode cX0_init 6 = .ok (.putfield 11, 3) := by decide +kernel
theorem dX0_init_9 : decode cX0_init 9 = .ok (.aload_n 0, 1) := by decide +kernel
theorem dX0_init_10 : decode cX0_init 10 = .ok (.iload_n 1, 1) := by decide +kernel
theorem dX0_init_11 : decode cX0_init 11 = .ok (.putfield 15, 3) := by decide +kernel
theorem dX0_init_14 : decode cX0_init 14 = .ok (.aload_n 0, 1) := by decide +kernel
theorem dX0_init_15 : decode cX0_init 15 = .ok (.iconst 0, 1) := by decide +kernel
theorem dX0_init_16 : decode cX0_init 16 = .ok (.anewarray 9, 3) := by decide +kernel
theorem dX0_init_19 : decode cX0_init 19 = .ok (.putfield 18, 3) := by decide +kernel
theorem dX0_init_22 : decode cX0_init 22 = .ok (.aload_n 0, 1) := by decide +kernel
theorem dX0_init_23 : decode cX0_init 23 = .ok (.iload_n 1, 1) := by decide +kernel
theorem dX0_init_24 : decode cX0_init 24 = .ok (.ifCond .lt 19, 3) := by decide +kernel
theorem dX0_init_27 : decode cX0_init 27 = .ok (.iload_n 1, 1) := by decide +kernel
theorem dX0_init_28 : decode cX0_init 28 = .ok (.getstatic 22, 3) := by decide +kernel
theorem dX0_init_31 : decode cX0_init 31 = .ok (.arraylength, 1) := by decide +kernel
theorem dX0_init_32 : decode cX0_init 32 = .ok (.if_icmp .ge 11, 3) := by decide +kernel
theorem dX0_init_35 : decode cX0_init 35 = .ok (.getstatic 22, 3) := by decide +kernel
theorem dX0_init_38 : decode cX0_init 38 = .ok (.iload_n 1, 1) := by decide +kernel
theorem dX0_init_39 : decode cX0_init 39 = .ok (.laload, 1) := by decide +kernel
theorem dX0_init_40 : decode cX0_init 40 = .ok (.goto 4, 3) := by decide +kernel
theorem dX0_init_43 : decode cX0_init 43 = .ok (.lconst 0, 1) := by decide +kernel
theorem dX0_init_44 : decode cX0_init 44 = .ok (.putfield 26, 3) := by decide +kernel
theorem dX0_init_47 : decode cX0_init 47 = .ok (.aload_n 0, 1) := by decide +kernel
theorem dX0_init_48 : decode cX0_init 48 = .ok (.iconst 2, 1) := by decide +kernel
theorem dX0_init_49 : decode cX0_init 49 = .ok (.putfield 30, 3) := by decide +kernel
theorem dX0_init_52 : decode cX0_init 52 = .ok (.aload_n 0, 1) := by decide +kernel
theorem dX0_init_53 : decode cX0_init 53 = .ok (.iconst 0, 1) := by decide +kernel
theorem dX0_init_54 : decode cX0_init 54 = .ok (.putfield 33, 3) := by decide +kernel
theorem dX0_init_57 : decode cX0_init 57 = .ok (.aload_n 0, 1) := by decide +kernel
theorem dX0_init_58 : decode cX0_init 58 = .ok (.iconst 0, 1) := by decide +kernel
theorem dX0_init_59 : decode cX0_init 59 = .ok (.putfield 36, 3) := by decide +kernel
theorem dX0_init_62 : decode cX0_init 62 = .ok (.return_, 1) := by decide +kernel
theorem dX0_init__0 : decode cX0_init_ 0 = .ok (.aload_n 0, 1) := by decide +kernel
theorem dX0_init__1 : decode cX0_init_ 1 = .ok (.invokespecial 3, 3) := by decide +kernel
theorem dX0_init__4 : decode cX0_init_ 4 = .ok (.ldc2_w 40, 3) := by decide +kernel
theorem dX0_init__7 : decode cX0_init_ 7 = .ok (.lstore_n 3, 1) := by decide +kernel
theorem dX0_init__8 : decode cX0_init_ 8 = .ok (.lconst 0, 1) := by decide +kernel
theorem dX0_init__9 : decode cX0_init_ 9 = .ok (.lstore 5, 2) := by decide +kernel
theorem dX0_init__11 : decode cX0_init_ 11 = .ok (.iconst 0, 1) := by decide +kernel
theorem dX0_init__12 : decode cX0_init_ 12 = .ok (.istore 7, 2) := by decide +kernel
theorem dX0_init__14 : decode cX0_init_ 14 = .ok (.iconst 0, 1) := by decide +kernel
theorem dX0_init__15 : decode cX0_init_ 15 = .ok (.istore 8, 2) := by decide +kernel
theorem dX0_init__17 : decode cX0_init_ 17 = .ok (.iconst 0, 1) := by decide +kernel
theorem dX0_init__18 : decode cX0_init_ 18 = .ok (.istore 9, 2) := by decide +kernel
theorem dX0_init__20 : decode cX0_init_ 20 = .ok (.aload_n 2, 1) := by decide +kernel
theorem dX0_init__21 : decode cX0_init_ 21 = .ok (.astore 10, 2) := by decide +kernel
theorem dX0_init__23 : decode cX0_init_ 23 = .ok (.aload 10, 2) := by decide +kernel
theorem dX0_init__25 : decode cX0_init_ 25 = .ok (.arraylength, 1) := by decide +kernel
theorem dX0_init__26 : decode cX0_init_ 26 = .ok (.istore 11, 2) := by decide +kernel
theorem dX0_init__28 : decode cX0_init_ 28 = .ok (.iconst 0, 1) := by decide +kernel
theorem dX0_init__29 : decode cX0_init_ 29 = .ok (.istore 12, 2) := by decide +kernel
theorem dX0_init__31 : decode cX0_init_ 31 = .ok (.iload 12, 2) := by decide +kernel
theorem dX0_init__33 : decode cX0_init_ 33 = .ok (.iload 11, 2) := by decide +kernel
theorem dX0_init__35 : decode cX0_init_ 35 = .ok (.if_icmp .ge 88, 3) := by decide +kernel
theorem dX0_init__38 : decode cX0_init_ 38 = .ok (.aload 10, 2) := by decide +kernel
theorem dX0_init__40 : decode cX0_init_ 40 = .ok (.iload 12, 2) := by decide +kernel
theorem dX0_init__42 : decode cX0_init_ 42 = .ok (.aaload, 1) := by decide +kernel
theorem dX0_init__43 : decode cX0_init_ 43 = .ok (.astore 13, 2) := by decide +kernel
theorem dX0_init__45 : decode cX0_init_ 45 = .ok (.lload_n 3, 1) := by decide +kernel
theorem dX0_init__46 : decode cX0_init_ 46 = .ok (.aload 13, 2) := by decide +kernel
theorem dX0_init__48 : decode cX0_init_ 48 = .ok (.getfield 26, 3) := by decide +kernel
theorem dX0_init__51 : decode cX0_init_ 51 = .ok (.land, 1) := by decide +kernel
theorem dX0_init__52 : decode cX0_init_ 52 = .ok (.lstore_n 3, 1) := by decide +kernel
theorem dX0_init__53 : decode cX0_init_ 53 = .ok (.lload 5, 2) := by decide +kernel
theorem dX0_init__55 : decode cX0_init_ 55 = .ok (.aload 13, 2) := by decide +kernel
theorem dX0_init__57 : decode cX0_init_ 57 = .ok (.getfield 26, 3) := by decide +kernel
theorem dX0_init__60 : decode cX0_init_ 60 = .ok (.lor, 1) := by decide +kernel
theorem dX0_init__61 : decode cX0_init_ 61 = .ok (.lstore 5, 2) := by decide +kernel
theorem dX0_init__63 : decode cX0_init_ 63 = .ok (.iload 7, 2) := by decide +kernel
theorem dX0_init__65 : decode cX0_init_ 65 = .ok (.aload 13, 2) := by decide +kernel
theorem dX0_init__67 : decode cX0_init_ 67 = .ok (.getfield 30, 3) := by decide +kernel
theorem dX0_init__70 : decode cX0_init_ 70 = .ok (.iadd, 1) := by decide +kernel
theorem dX0_init__71 : decode cX0_init_ 71 = .ok (.istore 7, 2) := by decide +kernel
theorem dX0_init__73 : decode cX0_init_ 73 = .ok (.iload 8, 2) := by decide +kernel
theorem dX0_init__75 : decode cX0_init_ 75 = .ok (.aload 13, 2) := by decide +kernel
theorem dX0_init__77 : decode cX0_init_ 77 = .ok (.getfield 33, 3) := by decide +kernel
theorem dX0_init__80 : decode cX0_init_ 80 = .ok (.iadd, 1) := by decide +kernel
theorem dX0_init__81 : decode cX0_init_ 81 = .ok (.istore 8, 2) := by decide +kernel
theorem dX0_init__83 : decode cX0_init_ 83 = .ok (.iload 9, 2) := by decide +kernel
theorem dX0_init__85 : decode cX0_init_ 85 = .ok (.ifCond .ne 25, 3) := by decide +kernel
theorem dX0_init__88 : decode cX0_init_ 88 = .ok (.aload 13, 2) := by decide +kernel
theorem dX0_init__90 : decode cX0_init_ 90 = .ok (.getfield 36, 3) := by decide +kernel
theorem dX0_init__93 : decode cX0_init_ 93 = .ok (.ifCond .ne 17, 3) := by decide +kernel
theorem dX0_init__96 : decode cX0_init_ 96 = .ok (.iload_n 1, 1) := by decide +kernel
theorem dX0_init__97 : decode cX0_init_ 97 = .ok (.iconst 2, 1) := by decide +kernel
theorem dX0_init__98 : decode cX0_init_ 98 = .ok (.if_icmp .ne 16, 3) := by decide +kernel
theorem dX0_init__101 : decode cX0_init_ 101 = .ok (.aload 13, 2) := by decide +kernel
theorem dX0_init__103 : decode cX0_init_ 103 = .ok (.getfield 11, 3) := by decide +kernel
theorem dX0_init__106 : decode cX0_init_ 106 = .ok (.iconst 2, 1) := by decide +kernel
theorem dX0_init__107 : decode cX0_init_ 107 = .ok (.if_icmp .ne 7, 3) := by decide +kernel
theorem dX0_init__110 : decode cX0_init_ 110 = .ok (.iconst 1, 1) := by decide +kernel
theorem dX0_init__111 : decode cX0_init_ 111 = .ok (.goto 4, 3) := by decide +kernel
theorem dX0_init__114 : decode cX0_init_ 114 = .ok (.iconst 0, 1) := by decide +kernel
theorem dX0_init__115 : decode cX0_init_ 115 = .ok (.istore 9, 2) := by decide +kernel
theorem dX0_init__117 : decode cX0_init_ 117 = .ok (.iinc 12 1, 3) := by decide +kernel
theorem dX0_init__120 : decode cX0_init_ 120 = .ok (.goto (-89), 3) := by decide +kernel
theorem dX0_init__123 : decode cX0_init_ 123 = .ok (.aload_n 0, 1) := by decide +kernel
theorem dX0_init__124 : decode cX0_init_ 124 = .ok (.iload_n 1, 1) := by decide +kernel
theorem dX0_init__125 : decode cX0_init_ 125 = .ok (.putfield 11, 3) := by decide +kernel
theorem dX0_init__128 : decode cX0_init_ 128 = .ok (.aload_n 0, 1) := by decide +kernel
theorem dX0_init__129 : decode cX0_init_ 129 = .ok (.iconst (-1), 1) := by decide +kernel
theorem dX0_init__130 : decode cX0_init_ 130 = .ok (.putfield 15, 3) := by decide +kernel
theorem dX0_init__133 : decode cX0_init_ 133 = .ok (.aload_n 0, 1) := by decide +kernel
theorem dX0_init__134 : decode cX0_init_ 134 = .ok (.aload_n 2, 1) := by decide +kernel
theorem dX0_init__135 : decode cX0_init_ 135 = .ok (.putfield 18, 3) := by decide +kernel
theorem dX0_init__138 : decode cX0_init_ 138 = .ok (.aload_n 0, 1) := by decide +kernel
theorem dX0_init__139 : decode cX0_init_ 139 = .ok (.iload_n 1, 1) := by decide +kernel
theorem dX0_init__140 : decode cX0_init_ 140 = .ok (.iconst 2, 1) := by decide +kernel
theorem dX0_init__141 : decode cX0_init_ 141 = .ok (.if_icmp .ne 12, 3) := by decide +kernel
theorem dX0_init__144 : decode cX0_init_ 144 = .ok (.lload 5, 2) := by decide +kernel
theorem dX0_init__146 : decode cX0_init_ 146 = .ok (.ldc2_w 40, 3) := by decide +kernel
theorem dX0_init__149 : decode cX0_init_ 149 = .ok (.lxor, 1) := by decide +kernel
theorem dX0_init__150 : decode cX0_init_ 150 = .ok (.goto 14, 3) := by decide +kernel
theorem dX0_init__153 : decode cX0_init_ 153 = .ok (.iload_n 1, 1) := by decide +kernel
theorem dX0_init__154 : decode cX0_init_ 154 = .ok (.iconst 1, 1) := by decide +kernel
theorem dX0_init__155 : decode cX0_init_ 155 = .ok (.if_icmp .ne 7, 3) := by decide +kernel
theorem dX0_init__158 : decode cX0_init_ 158 = .ok (.lload_n 3, 1) := by decide +kernel
theorem dX0_init__159 : decode cX0_init_ 159 = .ok (.goto 5, 3) := by decide +kernel
theorem dX0_init__162 : decode cX0_init_ 162 = .ok (.lload 5, 2) := by decide +kernel
theorem dX0_init__164 : decode cX0_init_ 164 = .ok (.putfield 26, 3) := by decide +kernel
theorem dX0_init__167 : decode cX0_init_ 167 = .ok (.aload_n 0, 1) := by decide +kernel
theorem dX0_init__168 : decode cX0_init_ 168 = .ok (.iload_n 1, 1) := by decide +kernel
theorem dX0_init__169 : decode cX0_init_ 169 = .ok (.iconst 2, 1) := by decide +kernel
theorem dX0_init__170 : decode cX0_init_ 170 = .ok (.if_icmp .ne 10, 3) := by decide +kernel
theorem dX0_init__173 : decode cX0_init_ 173 = .ok (.iload 7, 2) := by decide +kernel
theorem dX0_init__175 : decode cX0_init_ 175 = .ok (.iconst 1, 1) := by decide +kernel
theorem dX0_init__176 : decode cX0_init_ 176 = .ok (.iadd, 1) := by decide +kernel
theorem dX0_init__177 : decode cX0_init_ 177 = .ok (.goto 10, 3) := by decide +kernel
theorem dX0_init__180 : decode cX0_init_ 180 = .ok (.iload 7, 2) := by decide +kernel
theorem dX0_init__182 : decode cX0_init_ 182 = .ok (.aload_n 2, 1) := by decide +kernel
theorem dX0_init__183 : decode cX0_init_ 183 = .ok (.arraylength, 1) := by decide +kernel
theorem dX0_init__184 : decode cX0_init_ 184 = .ok (.iadd, 1) := by decide +kernel
theorem dX0_init__185 : decode cX0_init_ 185 = .ok (.iconst 1, 1) := by decide +kernel
theorem dX0_init__186 : decode cX0_init_ 186 = .ok (.isub, 1) := by decide +kernel
theorem dX0_init__187 : decode cX0_init_ 187 = .ok (.putfield 30, 3) := by decide +kernel
theorem dX0_init__190 : decode cX0_init_ 190 = .ok (.aload_n 0, 1) := by decide +kernel
theorem dX0_init__191 : decode cX0_init_ 191 = .ok (.iload_n 1, 1) := by decide +kernel
theorem dX0_init__192 : decode cX0_init_ 192 = .ok (.iconst 2, 1) := by decide +kernel
theorem dX0_init__193 : decode cX0_init_ 193 = .ok (.if_icmp .ne 10, 3) := by decide +kernel
theorem dX0_init__196 : decode cX0_init_ 196 = .ok (.iload 8, 2) := by decide +kernel
theorem dX0_init__198 : decode cX0_init_ 198 = .ok (.iconst 1, 1) := by decide +kernel
theorem dX0_init__199 : decode cX0_init_ 199 = .ok (.iadd, 1) := by decide +kernel
theorem dX0_init__200 : decode cX0_init_ 200 = .ok (.goto 5, 3) := by decide +kernel
theorem dX0_init__203 : decode cX0_init_ 203 = .ok (.iload 8, 2) := by decide +kernel
theorem dX0_init__205 : decode cX0_init_ 205 = .ok (.putfield 33, 3) := by decide +kernel
theorem dX0_init__208 : decode cX0_init_ 208 = .ok (.aload_n 0, 1) := by decide +kernel
theorem dX0_init__209 : decode cX0_init_ 209 = .ok (.iload 9, 2) := by decide +kernel
theorem dX0_init__211 : decode cX0_init_ 211 = .ok (.putfield 36, 3) := by decide +kernel
theorem dX0_init__214 : decode cX0_init_ 214 = .ok (.return_, 1) := by decide +kernel
theorem dX0_ofCase_0 : decode cX0_ofCase 0 = .ok (.iload_n 0, 1) := by decide +kernel
theorem dX0_ofCase_1 : decode cX0_ofCase 1 = .ok (.iconst (-1), 1) := by decide +kernel
theorem dX0_ofCase_2 : decode cX0_ofCase 2 = .ok (.if_icmp .ne 7, 3) := by decide +kernel
theorem dX0_ofCase_5 : decode cX0_ofCase 5 = .ok (.aconst_null, 1) := by decide +kernel
theorem dX0_ofCase_6 : decode cX0_ofCase 6 = .ok (.goto 11, 3) := by decide +kernel
theorem dX0_ofCase_9 : decode cX0_ofCase 9 = .ok (.new 9, 3) := by decide +kernel
theorem dX0_ofCase_12 : decode cX0_ofCase 12 = .ok (.dup, 1) := by decide +kernel
theorem dX0_ofCase_13 : decode cX0_ofCase 13 = .ok (.iload_n 0, 1) := by decide +kernel
theorem dX0_ofCase_14 : decode cX0_ofCase 14 = .ok (.invokespecial 42, 3) := by decide +kernel
theorem dX0_ofCase_17 : decode cX0_ofCase 17 = .ok (.areturn, 1) := by decide +kernel
theorem dX0_negated_0 : decode cX0_negated 0 = .ok (.aload_n 0, 1) := by decide +kernel
theorem dX0_negated_1 : decode cX0_negated 1 = .ok (.ifnonnull 5, 3) := by decide +kernel
theorem dX0_negated_4 : decode cX0_negated 4 = .ok (.aconst_null, 1) := by decide +kernel
theorem dX0_negated_5 : decode cX0_negated 5 = .ok (.areturn, 1) := by decide +kernel
theorem dX0_negated_6 : decode cX0_negated 6 = .ok (.iconst 1, 1) := by decide +kernel
theorem dX0_negated_7 : decode cX0_negated 7 = .ok (.anewarray 9, 3) := by decide +kernel
theorem dX0_negated_10 : decode cX0_negated 10 = .ok (.dup, 1) := by decide +kernel
theorem dX0_negated_11 : decode cX0_negated 11 = .ok (.iconst 0, 1) := by decide +kernel
theorem dX0_negated_12 : decode cX0_negated 12 = .ok (.aload_n 0, 1) := by decide +kernel
theorem dX0_negated_13 : decode cX0_negated 13 = .ok (.aastore, 1) := by decide +kernel
theorem dX0_negated_14 : decode cX0_negated 14 = .ok (.astore_n 1, 1) := by decide +kernel
theorem dX0_negated_15 : decode cX0_negated 15 = .ok (.new 9, 3) := by decide +kernel
theorem dX0_negated_18 : decode cX0_negated 18 = .ok (.dup, 1) := by decide +kernel
theorem dX0_negated_19 : decode cX0_negated 19 = .ok (.iconst 2, 1) := by decide +kernel
theorem dX0_negated_20 : decode cX0_negated 20 = .ok (.aload_n 1, 1) := by decide +kernel
theorem dX0_negated_21 : decode cX0_negated 21 = .ok (.invokespecial 45, 3) := by decide +kernel
theorem dX0_negated_24 : decode cX0_negated 24 = .ok (.areturn, 1) := by decide +kernel
theorem dX0_joined_0 : decode cX0_joined 0 = .ok (.aload_n 1, 1) := by decide +kernel
theorem dX0_joined_1 : decode cX0_joined 1 = .ok (.ifnull 7, 3) := by decide +kernel
theorem dX0_joined_4 : decode cX0_joined 4 = .ok (.aload_n 2, 1) := by decide +kernel
theorem dX0_joined_5 : decode cX0_joined 5 = .ok (.ifnonnull 5, 3) := by decide +kernel
theorem dX0_joined_8 : decode cX0_joined 8 = .ok (.aconst_null, 1) := by decide +kernel
theorem dX0_joined_9 : decode cX0_joined 9 = .ok (.areturn, 1) := by decide +kernel
theorem dX0_joined_10 : decode cX0_joined 10 = .ok (.aload_n 1, 1) := by decide +kernel
theorem dX0_joined_11 : decode cX0_joined 11 = .ok (.iload_n 0, 1) := by decide +kernel
theorem dX0_joined_12 : decode cX0_joined 12 = .ok (.invokevirtual 48, 3) := by decide +kernel
theorem dX0_joined_15 : decode cX0_joined 15 = .ok (.astore_n 3, 1) := by decide +kernel
theorem dX0_joined_16 : decode cX0_joined 16 = .ok (.aload_n 2, 1) := by decide +kernel
theorem dX0_joined_17 : decode cX0_joined 17 = .ok (.iload_n 0, 1) := by decide +kernel
theorem dX0_joined_18 : decode cX0_joined 18 = .ok (.invokevirtual 48, 3) := by decide +kernel
theorem dX0_joined_21 : decode cX0_joined 21 = .ok (.astore 4, 2) := by decide +kernel
theorem dX0_joined_23 : decode cX0_joined 23 = .ok (.aload_n 3, 1) := by decide +kernel
theorem dX0_joined_24 : decode cX0_joined 24 = .ok (.arraylength, 1) := by decide +kernel
theorem dX0_joined_25 : decode cX0_joined 25 = .ok (.aload 4, 2) := by decide +kernel
theorem dX0_joined_27 : decode cX0_joined 27 = .ok (.arraylength, 1) := by decide +kernel
theorem dX0_joined_28 : decode cX0_joined 28 = .ok (.iadd, 1) := by decide +kernel
theorem dX0_joined_29 : decode cX0_joined 29 = .ok (.anewarray 9, 3) := by decide +kernel
theorem dX0_joined_32 : decode cX0_joined 32 = .ok (.astore 5, 2) := by decide +kernel
theorem dX0_joined_34 : decode cX0_joined 34 = .ok (.iconst 0, 1) := by decide +kernel
theorem dX0_joined_35 : decode cX0_joined 35 = .ok (.istore 6, 2) := by decide +kernel
theorem dX0_joined_37 : decode cX0_joined 37 = .ok (.iload 6, 2) := by decide +kernel
theorem dX0_joined_39 : decode cX0_joined 39 = .ok (.aload 5, 2) := by decide +kernel
theorem dX0_joined_41 : decode cX0_joined 41 = .ok (.arraylength, 1) := by decide +kernel
theorem dX0_joined_42 : decode cX0_joined 42 = .ok (.if_icmp .ge 36, 3) := by decide +kernel
theorem dX0_joined_45 : decode cX0_joined 45 = .ok (.aload 5, 2) := by decide +kernel
theorem dX0_joined_47 : decode cX0_joined 47 = .ok (.iload 6, 2) := by decide +kernel
theorem dX0_joined_49 : decode cX0_joined 49 = .ok (.iload 6, 2) := by decide +kernel
theorem dX0_joined_51 : decode cX0_joined 51 = .ok (.aload_n 3, 1) := by decide +kernel
theorem dX0_joined_52 : decode cX0_joined 52 = .ok (.arraylength, 1) := by decide +kernel
theorem dX0_joined_53 : decode cX0_joined 53 = .ok (.if_icmp .ge 10, 3) := by decide +kernel
theorem dX0_joined_56 : decode cX0_joined 56 = .ok (.aload_n 3, 1) := by decide +kernel
theorem dX0_joined_57 : decode cX0_joined 57 = .ok (.iload 6, 2) := by decide +kernel
theorem dX0_joined_59 : decode cX0_joined 59 = .ok (.aaload, 1) := by decide +kernel
theorem dX0_joined_60 : decode cX0_joined 60 = .ok (.goto 11, 3) := by decide +kernel
theorem dX0_joined_63 : decode cX0_joined 63 = .ok (.aload 4, 2) := by decide +kernel
theorem dX0_joined_65 : decode cX0_joined 65 = .ok (.iload 6, 2) := by decide +kernel
theorem dX0_joined_67 : decode cX0_joined 67 = .ok (.aload_n 3, 1) := by decide +kernel
theorem dX0_joined_68 : decode cX0_joined 68 = .ok (.arraylength, 1) := by decide +kernel
theorem dX0_joined_69 : decode cX0_joined 69 = .ok (.isub, 1) := by decide +kernel
theorem dX0_joined_70 : decode cX0_joined 70 = .ok (.aaload, 1) := by decide +kernel
theorem dX0_joined_71 : decode cX0_joined 71 = .ok (.aastore, 1) := by decide +kernel
theorem dX0_joined_72 : decode cX0_joined 72 = .ok (.iinc 6 1, 3) := by decide +kernel
theorem dX0_joined_75 : decode cX0_joined 75 = .ok (.goto (-38), 3) := by decide +kernel
theorem dX0_joined_78 : decode cX0_joined 78 = .ok (.new 9, 3) := by decide +kernel
theorem dX0_joined_81 : decode cX0_joined 81 = .ok (.dup, 1) := by decide +kernel
theorem dX0_joined_82 : decode cX0_joined 82 = .ok (.iload_n 0, 1) := by decide +kernel
theorem dX0_joined_83 : decode cX0_joined 83 = .ok (.aload 5, 2) := by decide +kernel
theorem dX0_joined_85 : decode cX0_joined 85 = .ok (.invokespecial 45, 3) := by decide +kernel
theorem dX0_joined_88 : decode cX0_joined 88 = .ok (.areturn, 1) := by decide +kernel
theorem dX0_rowOf_0 : decode cX0_rowOf 0 = .ok (.aload_n 0, 1) := by decide +kernel
theorem dX0_rowOf_1 : decode cX0_rowOf 1 = .ok (.getfield 11, 3) := by decide +kernel
theorem dX0_rowOf_4 : decode cX0_rowOf 4 = .ok (.iload_n 1, 1) := by decide +kernel
theorem dX0_rowOf_5 : decode cX0_rowOf 5 = .ok (.if_icmp .ne 8, 3) := by decide +kernel
theorem dX0_rowOf_8 : decode cX0_rowOf 8 = .ok (.aload_n 0, 1) := by decide +kernel
theorem dX0_rowOf_9 : decode cX0_rowOf 9 = .ok (.getfield 18, 3) := by decide +kernel
theorem dX0_rowOf_12 : decode cX0_rowOf 12 = .ok (.areturn, 1) := by decide +kernel
theorem dX0_rowOf_13 : decode cX0_rowOf 13 = .ok (.iconst 1, 1) := by decide +kernel
theorem dX0_rowOf_14 : decode cX0_rowOf 14 = .ok (.anewarray 9, 3) := by decide +kernel
theorem dX0_rowOf_17 : decode cX0_rowOf 17 = .ok (.dup, 1) := by decide +kernel
theorem dX0_rowOf_18 : decode cX0_rowOf 18 = .ok (.iconst 0, 1) := by decide +kernel
theorem dX0_rowOf_19 : decode cX0_rowOf 19 = .ok (.aload_n 0, 1) := by decide +kernel
theorem dX0_rowOf_20 : decode cX0_rowOf 20 = .ok (.aastore, 1) := by decide +kernel
theorem dX0_rowOf_21 : decode cX0_rowOf 21 = .ok (.astore_n 2, 1) := by decide +kernel
theorem dX0_rowOf_22 : decode cX0_rowOf 22 = .ok (.aload_n 2, 1) := by decide +kernel
theorem dX0_rowOf_23 : decode cX0_rowOf 23 = .ok (.areturn, 1) := by decide +kernel
theorem dX0_eased_0 : decode cX0_eased 0 = .ok (.aload_n 0, 1) := by decide +kernel
theorem dX0_eased_1 : decode cX0_eased 1 = .ok (.getfield 36, 3) := by decide +kernel
theorem dX0_eased_4 : decode cX0_eased 4 = .ok (.ifCond .eq 17, 3) := by decide +kernel
theorem dX0_eased_7 : decode cX0_eased 7 = .ok (.aload_n 0, 1) := by decide +kernel
theorem dX0_eased_8 : decode cX0_eased 8 = .ok (.getfield 18, 3) := by decide +kernel
theorem dX0_eased_11 : decode cX0_eased 11 = .ok (.arraylength, 1) := by decide +kernel
theorem dX0_eased_12 : decode cX0_eased 12 = .ok (.ifCond .eq 9, 3) := by decide +kernel
theorem dX0_eased_15 : decode cX0_eased 15 = .ok (.iload_n 1, 1) := by decide +kernel
theorem dX0_eased_16 : decode cX0_eased 16 = .ok (.bipush 40, 2) := by decide +kernel
theorem dX0_eased_18 : decode cX0_eased 18 = .ok (.if_icmp .le 5, 3) := by decide +kernel
theorem dX0_eased_21 : decode cX0_eased 21 = .ok (.aload_n 0, 1) := by decide +kernel
theorem dX0_eased_22 : decode cX0_eased 22 = .ok (.areturn, 1) := by decide +kernel
theorem dX0_eased_23 : decode cX0_eased 23 = .ok (.aload_n 0, 1) := by decide +kernel
theorem dX0_eased_24 : decode cX0_eased 24 = .ok (.getfield 18, 3) := by decide +kernel
theorem dX0_eased_27 : decode cX0_eased 27 = .ok (.iconst 0, 1) := by decide +kernel
theorem dX0_eased_28 : decode cX0_eased 28 = .ok (.aaload, 1) := by decide +kernel
theorem dX0_eased_29 : decode cX0_eased 29 = .ok (.astore_n 2, 1) := by decide +kernel
theorem dX0_eased_30 : decode cX0_eased 30 = .ok (.aload_n 0, 1) := by decide +kernel
theorem dX0_eased_31 : decode cX0_eased 31 = .ok (.getfield 11, 3) := by decide +kernel
theorem dX0_eased_34 : decode cX0_eased 34 = .ok (.iconst 2, 1) := by decide +kernel
theorem dX0_eased_35 : decode cX0_eased 35 = .ok (.if_icmp .ne 55, 3) := by decide +kernel
theorem dX0_eased_38 : decode cX0_eased 38 = .ok (.aload_n 2, 1) := by decide +kernel
theorem dX0_eased_39 : decode cX0_eased 39 = .ok (.getfield 11, 3) := by decide +kernel
theorem dX0_eased_42 : decode cX0_eased 42 = .ok (.iconst 2, 1) := by decide +kernel
theorem dX0_eased_43 : decode cX0_eased 43 = .ok (.if_icmp .ne 15, 3) := by decide +kernel
theorem dX0_eased_46 : decode cX0_eased 46 = .ok (.aload_n 2, 1) := by decide +kernel
theorem dX0_eased_47 : decode cX0_eased 47 = .ok (.getfield 18, 3) := by decide +kernel
theorem dX0_eased_50 : decode cX0_eased 50 = .ok (.arraylength, 1) := by decide +kernel
theorem dX0_eased_51 : decode cX0_eased 51 = .ok (.ifCond .le 7, 3) := by decide +kernel
theorem dX0_eased_54 : decode cX0_eased 54 = .ok (.iconst 1, 1) := by decide +kernel
theorem dX0_eased_55 : decode cX0_eased 55 = .ok (.goto 4, 3) := by decide +kernel
theorem dX0_eased_58 : decode cX0_eased 58 = .ok (.iconst 0, 1) := by decide +kernel
theorem dX0_eased_59 : decode cX0_eased 59 = .ok (.istore_n 3, 1) := by decide +kernel
theorem dX0_eased_60 : decode cX0_eased 60 = .ok (.iload_n 3, 1) := by decide +kernel
theorem dX0_eased_61 : decode cX0_eased 61 = .ok (.ifCond .eq 18, 3) := by decide +kernel
theorem dX0_eased_64 : decode cX0_eased 64 = .ok (.aload_n 2, 1) := by decide +kernel
theorem dX0_eased_65 : decode cX0_eased 65 = .ok (.getfield 18, 3) := by decide +kernel
theorem dX0_eased_68 : decode cX0_eased 68 = .ok (.iconst 0, 1) := by decide +kernel
theorem dX0_eased_69 : decode cX0_eased 69 = .ok (.aaload, 1) := by decide +kernel
theorem dX0_eased_70 : decode cX0_eased 70 = .ok (.iload_n 1, 1) := by decide +kernel
theorem dX0_eased_71 : decode cX0_eased 71 = .ok (.iconst 1, 1) := by decide +kernel
theorem dX0_eased_72 : decode cX0_eased 72 = .ok (.iadd, 1) := by decide +kernel
theorem dX0_eased_73 : decode cX0_eased 73 = .ok (.invokestatic 52, 3) := by decide +kernel
theorem dX0_eased_76 : decode cX0_eased 76 = .ok (.goto 13, 3) := by decide +kernel
theorem dX0_eased_79 : decode cX0_eased 79 = .ok (.aload_n 2, 1) := by decide +kernel
theorem dX0_eased_80 : decode cX0_eased 80 = .ok (.iload_n 1, 1) := by decide +kernel
theorem dX0_eased_81 : decode cX0_eased 81 = .ok (.iconst 1, 1) := by decide +kernel
theorem dX0_eased_82 : decode cX0_eased 82 = .ok (.iadd, 1) := by decide +kernel
theorem dX0_eased_83 : decode cX0_eased 83 = .ok (.invokestatic 52, 3) := by decide +kernel
theorem dX0_eased_86 : decode cX0_eased 86 = .ok (.invokestatic 56, 3) := by decide +kernel
theorem dX0_eased_89 : decode cX0_eased 89 = .ok (.areturn, 1) := by decide +kernel
theorem dX0_eased_90 : decode cX0_eased 90 = .ok (.aload_n 2, 1) := by decide +kernel
theorem dX0_eased_91 : decode cX0_eased 91 = .ok (.iload_n 1, 1) := by decide +kernel
theorem dX0_eased_92 : decode cX0_eased 92 = .ok (.iconst 1, 1) := by decide +kernel
theorem dX0_eased_93 : decode cX0_eased 93 = .ok (.iadd, 1) := by decide +kernel
theorem dX0_eased_94 : decode cX0_eased 94 = .ok (.invokestatic 52, 3) := by decide +kernel
theorem dX0_eased_97 : decode cX0_eased 97 = .ok (.astore_n 3, 1) := by decide +kernel
theorem dX0_eased_98 : decode cX0_eased 98 = .ok (.iconst 1, 1) := by decide +kernel
theorem dX0_eased_99 : decode cX0_eased 99 = .ok (.istore 4, 2) := by decide +kernel
theorem dX0_eased_101 : decode cX0_eased 101 = .ok (.iload 4, 2) := by decide +kernel
theorem dX0_eased_103 : decode cX0_eased 103 = .ok (.aload_n 0, 1) := by decide +kernel
theorem dX0_eased_104 : decode cX0_eased 104 = .ok (.getfield 18, 3) := by decide +kernel
theorem dX0_eased_107 : decode cX0_eased 107 = .ok (.arraylength, 1) := by decide +kernel
theorem dX0_eased_108 : decode cX0_eased 108 = .ok (.if_icmp .ge 31, 3) := by decide +kernel
theorem dX0_eased_111 : decode cX0_eased 111 = .ok (.aload_n 0, 1) := by decide +kernel
theorem dX0_eased_112 : decode cX0_eased 112 = .ok (.getfield 11, 3) := by decide +kernel
theorem dX0_eased_115 : decode cX0_eased 115 = .ok (.aload_n 3, 1) := by decide +kernel
theorem dX0_eased_116 : decode cX0_eased 116 = .ok (.aload_n 0, 1) := by decide +kernel
theorem dX0_eased_117 : decode cX0_eased 117 = .ok (.getfield 18, 3) := by decide +kernel
theorem dX0_eased_120 : decode cX0_eased 120 = .ok (.iload 4, 2) := by decide +kernel
theorem dX0_eased_122 : decode cX0_eased 122 = .ok (.aaload, 1) := by decide +kernel
theorem dX0_eased_123 : decode cX0_eased 123 = .ok (.iload_n 1, 1) := by decide +kernel
theorem dX0_eased_124 : decode cX0_eased 124 = .ok (.iconst 1, 1) := by decide +kernel
theorem dX0_eased_125 : decode cX0_eased 125 = .ok (.iadd, 1) := by decide +kernel
theorem dX0_eased_126 : decode cX0_eased 126 = .ok (.invokestatic 52, 3) := by decide +kernel
theorem dX0_eased_129 : decode cX0_eased 129 = .ok (.invokestatic 60, 3) := by decide +kernel
theorem dX0_eased_132 : decode cX0_eased 132 = .ok (.astore_n 3, 1) := by decide +kernel
theorem dX0_eased_133 : decode cX0_eased 133 = .ok (.iinc 4 1, 3) := by decide +kernel
theorem dX0_eased_136 : decode cX0_eased 136 = .ok (.goto (-35), 3) := by decide +kernel
theorem dX0_eased_139 : decode cX0_eased 139 = .ok (.aload_n 3, 1) := by decide +kernel
theorem dX0_eased_140 : decode cX0_eased 140 = .ok (.areturn, 1) := by decide +kernel
theorem dX0_alike_0 : decode cX0_alike 0 = .ok (.aload_n 0, 1) := by decide +kernel
theorem dX0_alike_1 : decode cX0_alike 1 = .ok (.ifnull 7, 3) := by decide +kernel
theorem dX0_alike_4 : decode cX0_alike 4 = .ok (.aload_n 1, 1) := by decide +kernel
theorem dX0_alike_5 : decode cX0_alike 5 = .ok (.ifnonnull 17, 3) := by decide +kernel
theorem dX0_alike_8 : decode cX0_alike 8 = .ok (.aload_n 0, 1) := by decide +kernel
theorem dX0_alike_9 : decode cX0_alike 9 = .ok (.ifnonnull 11, 3) := by decide +kernel
theorem dX0_alike_12 : decode cX0_alike 12 = .ok (.aload_n 1, 1) := by decide +kernel
theorem dX0_alike_13 : decode cX0_alike 13 = .ok (.ifnonnull 7, 3) := by decide +kernel
theorem dX0_alike_16 : decode cX0_alike 16 = .ok (.iconst 1, 1) := by decide +kernel
theorem dX0_alike_17 : decode cX0_alike 17 = .ok (.goto 4, 3) := by decide +kernel
theorem dX0_alike_20 : decode cX0_alike 20 = .ok (.iconst 0, 1) := by decide +kernel
theorem dX0_alike_21 : decode cX0_alike 21 = .ok (.ireturn, 1) := by decide +kernel
theorem dX0_alike_22 : decode cX0_alike 22 = .ok (.aload_n 0, 1) := by decide +kernel
theorem dX0_alike_23 : decode cX0_alike 23 = .ok (.getfield 11, 3) := by decide +kernel
theorem dX0_alike_26 : decode cX0_alike 26 = .ok (.aload_n 1, 1) := by decide +kernel
theorem dX0_alike_27 : decode cX0_alike 27 = .ok (.getfield 11, 3) := by decide +kernel
theorem dX0_alike_30 : decode cX0_alike 30 = .ok (.if_icmp .ne 33, 3) := by decide +kernel
theorem dX0_alike_33 : decode cX0_alike 33 = .ok (.aload_n 0, 1) := by decide +kernel
theorem dX0_alike_34 : decode cX0_alike 34 = .ok (.getfield 15, 3) := by decide +kernel
theorem dX0_alike_37 : decode cX0_alike 37 = .ok (.aload_n 1, 1) := by decide +kernel
theorem dX0_alike_38 : decode cX0_alike 38 = .ok (.getfield 15, 3) := by decide +kernel
theorem dX0_alike_41 : decode cX0_alike 41 = .ok (.if_icmp .ne 22, 3) := by decide +kernel
theorem dX0_alike_44 : decode cX0_alike 44 = .ok (.aload_n 0, 1) := by decide +kernel
theorem dX0_alike_45 : decode cX0_alike 45 = .ok (.getfield 18, 3) := by decide +kernel
theorem dX0_alike_48 : decode cX0_alike 48 = .ok (.arraylength, 1) := by decide +kernel
theorem dX0_alike_49 : decode cX0_alike 49 = .ok (.aload_n 1, 1) := by decide +kernel
theorem dX0_alike_50 : decode cX0_alike 50 = .ok (.getfield 18, 3) := by decide +kernel
theorem dX0_alike_53 : decode cX0_alike 53 = .ok (.arraylength, 1) := by decide +kernel
theorem dX0_alike_54 : decode cX0_alike 54 = .ok (.if_icmp .ne 9, 3) := by decide +kernel
theorem dX0_alike_57 : decode cX0_alike 57 = .ok (.iload_n 2, 1) := by decide +kernel
theorem dX0_alike_58 : decode cX0_alike 58 = .ok (.bipush 40, 2) := by decide +kernel
theorem dX0_alike_60 : decode cX0_alike 60 = .ok (.if_icmp .le 5, 3) := by decide +kernel
theorem dX0_alike_63 : decode cX0_alike 63 = .ok (.iconst 0, 1) := by decide +kernel
theorem dX0_alike_64 : decode cX0_alike 64 = .ok (.ireturn, 1) := by decide +kernel
theorem dX0_alike_65 : decode cX0_alike 65 = .ok (.iconst 0, 1) := by decide +kernel
theorem dX0_alike_66 : decode cX0_alike 66 = .ok (.istore_n 3, 1) := by decide +kernel
theorem dX0_alike_67 : decode cX0_alike 67 = .ok (.iload_n 3, 1) := by decide +kernel
theorem dX0_alike_68 : decode cX0_alike 68 = .ok (.aload_n 0, 1) := by decide +kernel
theorem dX0_alike_69 : decode cX0_alike 69 = .ok (.getfield 18, 3) := by decide +kernel
theorem dX0_alike_72 : decode cX0_alike 72 = .ok (.arraylength, 1) := by decide +kernel
theorem dX0_alike_73 : decode cX0_alike 73 = .ok (.if_icmp .ge 32, 3) := by decide +kernel
theorem dX0_alike_76 : decode cX0_alike 76 = .ok (.aload_n 0, 1) := by decide +kernel
theorem dX0_alike_77 : decode cX0_alike 77 = .ok (.getfield 18, 3) := by decide +kernel
theorem dX0_alike_80 : decode cX0_alike 80 = .ok (.iload_n 3, 1) := by decide +kernel
theorem dX0_alike_81 : decode cX0_alike 81 = .ok (.aaload, 1) := by decide +kernel
theorem dX0_alike_82 : decode cX0_alike 82 = .ok (.aload_n 1, 1) := by decide +kernel
theorem dX0_alike_83 : decode cX0_alike 83 = .ok (.getfield 18, 3) := by decide +kernel
theorem dX0_alike_86 : decode cX0_alike 86 = .ok (.iload_n 3, 1) := by decide +kernel
theorem dX0_alike_87 : decode cX0_alike 87 = .ok (.aaload, 1) := by decide +kernel
theorem dX0_alike_88 : decode cX0_alike 88 = .ok (.iload_n 2, 1) := by decide +kernel
theorem dX0_alike_89 : decode cX0_alike 89 = .ok (.iconst 1, 1) := by decide +kernel
theorem dX0_alike_90 : decode cX0_alike 90 = .ok (.iadd, 1) := by decide +kernel
theorem dX0_alike_91 : decode cX0_alike 91 = .ok (.invokestatic 64, 3) := by decide +kernel
theorem dX0_alike_94 : decode cX0_alike 94 = .ok (.ifCond .ne 5, 3) := by decide +kernel
theorem dX0_alike_97 : decode cX0_alike 97 = .ok (.iconst 0, 1) := by decide +kernel
theorem dX0_alike_98 : decode cX0_alike 98 = .ok (.ireturn, 1) := by decide +kernel
theorem dX0_alike_99 : decode cX0_alike 99 = .ok (.iinc 3 1, 3) := by decide +kernel
theorem dX0_alike_102 : decode cX0_alike 102 = .ok (.goto (-35), 3) := by decide +kernel
theorem dX0_alike_105 : decode cX0_alike 105 = .ok (.iconst 1, 1) := by decide +kernel
theorem dX0_alike_106 : decode cX0_alike 106 = .ok (.ireturn, 1) := by decide +kernel
theorem dX1_init_0 : decode cX1_init 0 = .ok (.aload_n 0, 1) := by decide +kernel
theorem dX1_init_1 : decode cX1_init 1 = .ok (.invokespecial 3, 3) := by decide +kernel
theorem dX1_init_4 : decode cX1_init 4 = .ok (.aload_n 0, 1) := by decide +kernel
theorem dX1_init_5 : decode cX1_init 5 = .ok (.new 9, 3) := by decide +kernel
theorem dX1_init_8 : decode cX1_init 8 = .ok (.dup, 1) := by decide +kernel
theorem dX1_init_9 : decode cX1_init 9 = .ok (.invokespecial 11, 3) := by decide +kernel
theorem dX1_init_12 : decode cX1_init 12 = .ok (.putfield 12, 3) := by decide +kernel
theorem dX1_init_15 : decode cX1_init 15 = .ok (.return_, 1) := by decide +kernel
theorem dX1_size_0 : decode cX1_size 0 = .ok (.aload_n 0, 1) := by decide +kernel
theorem dX1_size_1 : decode cX1_size 1 = .ok (.getfield 12, 3) := by decide +kernel
theorem dX1_size_4 : decode cX1_size 4 = .ok (.invokevirtual 18, 3) := by decide +kernel
theorem dX1_size_7 : decode cX1_size 7 = .ok (.ireturn, 1) := by decide +kernel
theorem dX1_at_0 : decode cX1_at 0 = .ok (.aload_n 0, 1) := by decide +kernel
theorem dX1_at_1 : decode cX1_at 1 = .ok (.getfield 12, 3) := by decide +kernel
theorem dX1_at_4 : decode cX1_at 4 = .ok (.iload_n 1, 1) := by decide +kernel
theorem dX1_at_5 : decode cX1_at 5 = .ok (.invokevirtual 22, 3) := by decide +kernel
theorem dX1_at_8 : decode cX1_at 8 = .ok (.checkcast 26, 3) := by decide +kernel
theorem dX1_at_11 : decode cX1_at 11 = .ok (.areturn, 1) := by decide +kernel
theorem dX1_clear_0 : decode cX1_clear 0 = .ok (.aload_n 0, 1) := by decide +kernel
theorem dX1_clear_1 : decode cX1_clear 1 = .ok (.getfield 12, 3) := by decide +kernel
theorem dX1_clear_4 : decode cX1_clear 4 = .ok (.invokevirtual 28, 3) := by decide +kernel
theorem dX1_clear_7 : decode cX1_clear 7 = .ok (.return_, 1) := by decide +kernel
theorem dX1_add_0 : decode cX1_add 0 = .ok (.aload_n 0, 1) := by decide +kernel
theorem dX1_add_1 : decode cX1_add 1 = .ok (.getfield 12, 3) := by decide +kernel
theorem dX1_add_4 : decode cX1_add 4 = .ok (.invokevirtual 18, 3) := by decide +kernel
theorem dX1_add_7 : decode cX1_add 7 = .ok (.bipush 24, 2) := by decide +kernel
theorem dX1_add_9 : decode cX1_add 9 = .ok (.if_icmp .ge 12, 3) := by decide +kernel
theorem dX1_add_12 : decode cX1_add 12 = .ok (.aload_n 0, 1) := by decide +kernel
theorem dX1_add_13 : decode cX1_add 13 = .ok (.getfield 12, 3) := by decide +kernel
theorem dX1_add_16 : decode cX1_add 16 = .ok (.aload_n 1, 1) := by decide +kernel
theorem dX1_add_17 : decode cX1_add 17 = .ok (.invokevirtual 31, 3) := by decide +kernel
theorem dX1_add_20 : decode cX1_add 20 = .ok (.pop, 1) := by decide +kernel
theorem dX1_add_21 : decode cX1_add 21 = .ok (.return_, 1) := by decide +kernel
theorem dX1_become_0 : decode cX1_become 0 = .ok (.aload_n 0, 1) := by decide +kernel
theorem dX1_become_1 : decode cX1_become 1 = .ok (.getfield 12, 3) := by decide +kernel
theorem dX1_become_4 : decode cX1_become 4 = .ok (.invokevirtual 28, 3) := by decide +kernel
theorem dX1_become_7 : decode cX1_become 7 = .ok (.iconst 0, 1) := by decide +kernel
theorem dX1_become_8 : decode cX1_become 8 = .ok (.istore_n 2, 1) := by decide +kernel
theorem dX1_become_9 : decode cX1_become 9 = .ok (.iload_n 2, 1) := by decide +kernel
theorem dX1_become_10 : decode cX1_become 10 = .ok (.aload_n 1, 1) := by decide +kernel
theorem dX1_become_11 : decode cX1_become 11 = .ok (.invokevirtual 35, 3) := by decide +kernel
theorem dX1_become_14 : decode cX1_become 14 = .ok (.if_icmp .ge 18, 3) := by decide +kernel
theorem dX1_become_17 : decode cX1_become 17 = .ok (.aload_n 0, 1) := by decide +kernel
theorem dX1_become_18 : decode cX1_become 18 = .ok (.aload_n 1, 1) := by decide +kernel
theorem dX1_become_19 : decode cX1_become 19 = .ok (.iload_n 2, 1) := by decide +kernel
theorem dX1_become_20 : decode cX1_become 20 = .ok (.invokevirtual 36, 3) := by decide +kernel
theorem dX1_become_23 : decode cX1_become 23 = .ok (.invokevirtual 40, 3) := by decide +kernel
theorem dX1_become_26 : decode cX1_become 26 = .ok (.iinc 2 1, 3) := by decide +kernel
theorem dX1_become_29 : decode cX1_become 29 = .ok (.goto (-20), 3) := by decide +kernel
theorem dX1_become_32 : decode cX1_become 32 = .ok (.return_, 1) := by decide +kernel
theorem dX1_partAt_0 : decode cX1_partAt 0 = .ok (.aload_n 0, 1) := by decide +kernel
theorem dX1_partAt_1 : decode cX1_partAt 1 = .ok (.iload_n 1, 1) := by decide +kernel
theorem dX1_partAt_2 : decode cX1_partAt 2 = .ok (.invokevirtual 36, 3) := by decide +kernel
theorem dX1_partAt_5 : decode cX1_partAt 5 = .ok (.astore_n 2, 1) := by decide +kernel
theorem dX1_partAt_6 : decode cX1_partAt 6 = .ok (.aload_n 2, 1) := by decide +kernel
theorem dX1_partAt_7 : decode cX1_partAt 7 = .ok (.getfield 43, 3) := by decide +kernel
theorem dX1_partAt_10 : decode cX1_partAt 10 = .ok (.arraylength, 1) := by decide +kernel
theorem dX1_partAt_11 : decode cX1_partAt 11 = .ok (.istore_n 3, 1) := by decide +kernel
theorem dX1_partAt_12 : decode cX1_partAt 12 = .ok (.iload_n 3, 1) := by decide +kernel
theorem dX1_partAt_13 : decode cX1_partAt 13 = .ok (.iconst 2, 1) := by decide +kernel
theorem dX1_partAt_14 : decode cX1_partAt 14 = .ok (.if_icmp .lt 19, 3) := by decide +kernel
theorem dX1_partAt_17 : decode cX1_partAt 17 = .ok (.aload_n 0, 1) := by decide +kernel
theorem dX1_partAt_18 : decode cX1_partAt 18 = .ok (.getfield 12, 3) := by decide +kernel
theorem dX1_partAt_21 : decode cX1_partAt 21 = .ok (.invokevirtual 18, 3) := by decide +kernel
theorem dX1_partAt_24 : decode cX1_partAt 24 = .ok (.iconst 1, 1) := by decide +kernel
theorem dX1_partAt_25 : decode cX1_partAt 25 = .ok (.isub, 1) := by decide +kernel
theorem dX1_partAt_26 : decode cX1_partAt 26 = .ok (.iload_n 3, 1) := by decide +kernel
theorem dX1_partAt_27 : decode cX1_partAt 27 = .ok (.iadd, 1) := by decide +kernel
theorem dX1_partAt_28 : decode cX1_partAt 28 = .ok (.bipush 24, 2) := by decide +kernel
theorem dX1_partAt_30 : decode cX1_partAt 30 = .ok (.if_icmp .le 5, 3) := by decide +kernel
theorem dX1_partAt_33 : decode cX1_partAt 33 = .ok (.iconst 0, 1) := by decide +kernel
theorem dX1_partAt_34 : decode cX1_partAt 34 = .ok (.ireturn, 1) := by decide +kernel
theorem dX1_partAt_35 : decode cX1_partAt 35 = .ok (.aload_n 0, 1) := by decide +kernel
theorem dX1_partAt_36 : decode cX1_partAt 36 = .ok (.getfield 12, 3) := by decide +kernel
theorem dX1_partAt_39 : decode cX1_partAt 39 = .ok (.iload_n 1, 1) := by decide +kernel
theorem dX1_partAt_40 : decode cX1_partAt 40 = .ok (.aload_n 2, 1) := by decide +kernel
theorem dX1_partAt_41 : decode cX1_partAt 41 = .ok (.iconst 0, 1) := by decide +kernel
theorem dX1_partAt_42 : decode cX1_partAt 42 = .ok (.invokevirtual 47, 3) := by decide +kernel
theorem dX1_partAt_45 : decode cX1_partAt 45 = .ok (.invokevirtual 50, 3) := by decide +kernel
theorem dX1_partAt_48 : decode cX1_partAt 48 = .ok (.pop, 1) := by decide +kernel
theorem dX1_partAt_49 : decode cX1_partAt 49 = .ok (.iconst 1, 1) := by decide +kernel
theorem dX1_partAt_50 : decode cX1_partAt 50 = .ok (.istore 4, 2) := by decide +kernel
theorem dX1_partAt_52 : decode cX1_partAt 52 = .ok (.iload 4, 2) := by decide +kernel
theorem dX1_partAt_54 : decode cX1_partAt 54 = .ok (.iload_n 3, 1) := by decide +kernel
theorem dX1_partAt_55 : decode cX1_partAt 55 = .ok (.if_icmp .ge 26, 3) := by decide +kernel
theorem dX1_partAt_58 : decode cX1_partAt 58 = .ok (.aload_n 0, 1) := by decide +kernel
theorem dX1_partAt_59 : decode cX1_partAt 59 = .ok (.getfield 12, 3) := by decide +kernel
theorem dX1_partAt_62 : decode cX1_partAt 62 = .ok (.iload_n 1, 1) := by decide +kernel
theorem dX1_partAt_63 : decode cX1_partAt 63 = .ok (.iload 4, 2) := by decide +kernel
theorem dX1_partAt_65 : decode cX1_partAt 65 = .ok (.iadd, 1) := by decide +kernel
theorem dX1_partAt_66 : decode cX1_partAt 66 = .ok (.aload_n 2, 1) := by decide +kernel
theorem dX1_partAt_67 : decode cX1_partAt 67 = .ok (.iload 4, 2) := by decide +kernel
theorem dX1_partAt_69 : decode cX1_partAt 69 = .ok (.invokevirtual 47, 3) := by decide +kernel
theorem dX1_partAt_72 : decode cX1_partAt 72 = .ok (.invokevirtual 54, 3) := by decide +kernel
theorem dX1_partAt_75 : decode cX1_partAt 75 = .ok (.iinc 4 1, 3) := by decide +kernel
theorem dX1_partAt_78 : decode cX1_partAt 78 = .ok (.goto (-26), 3) := by decide +kernel
theorem dX1_partAt_81 : decode cX1_partAt 81 = .ok (.iconst 1, 1) := by decide +kernel
theorem dX1_partAt_82 : decode cX1_partAt 82 = .ok (.ireturn, 1) := by decide +kernel
theorem dX1_meltAt_0 : decode cX1_meltAt 0 = .ok (.iload_n 1, 1) := by decide +kernel
theorem dX1_meltAt_1 : decode cX1_meltAt 1 = .ok (.iconst 1, 1) := by decide +kernel
theorem dX1_meltAt_2 : decode cX1_meltAt 2 = .ok (.iadd, 1) := by decide +kernel
theorem dX1_meltAt_3 : decode cX1_meltAt 3 = .ok (.aload_n 0, 1) := by decide +kernel
theorem dX1_meltAt_4 : decode cX1_meltAt 4 = .ok (.getfield 12, 3) := by decide +kernel
theorem dX1_meltAt_7 : decode cX1_meltAt 7 = .ok (.invokevirtual 18, 3) := by decide +kernel
theorem dX1_meltAt_10 : decode cX1_meltAt 10 = .ok (.if_icmp .ge 21, 3) := by decide +kernel
theorem dX1_meltAt_13 : decode cX1_meltAt 13 = .ok (.aload_n 0, 1) := by decide +kernel
theorem dX1_meltAt_14 : decode cX1_meltAt 14 = .ok (.iload_n 1, 1) := by decide +kernel
theorem dX1_meltAt_15 : decode cX1_meltAt 15 = .ok (.invokevirtual 36, 3) := by decide +kernel
theorem dX1_meltAt_18 : decode cX1_meltAt 18 = .ok (.aload_n 0, 1) := by decide +kernel
theorem dX1_meltAt_19 : decode cX1_meltAt 19 = .ok (.iload_n 1, 1) := by decide +kernel
theorem dX1_meltAt_20 : decode cX1_meltAt 20 = .ok (.iconst 1, 1) := by decide +kernel
theorem dX1_meltAt_21 : decode cX1_meltAt 21 = .ok (.iadd, 1) := by decide +kernel
theorem dX1_meltAt_22 : decode cX1_meltAt 22 = .ok (.invokevirtual 36, 3) := by decide +kernel
theorem dX1_meltAt_25 : decode cX1_meltAt 25 = .ok (.invokevirtual 57, 3) := by decide +kernel
theorem dX1_meltAt_28 : decode cX1_meltAt 28 = .ok (.ifCond .ne 5, 3) := by decide +kernel
theorem dX1_meltAt_31 : decode cX1_meltAt 31 = .ok (.iconst 0, 1) := by decide +kernel
theorem dX1_meltAt_32 : decode cX1_meltAt 32 = .ok (.ireturn, 1) := by decide +kernel
theorem dX1_meltAt_33 : decode cX1_meltAt 33 = .ok (.aload_n 0, 1) := by decide +kernel
theorem dX1_meltAt_34 : decode cX1_meltAt 34 = .ok (.getfield 12, 3) := by decide +kernel
theorem dX1_meltAt_37 : decode cX1_meltAt 37 = .ok (.iload_n 1, 1) := by decide +kernel
theorem dX1_meltAt_38 : decode cX1_meltAt 38 = .ok (.aload_n 0, 1) := by decide +kernel
theorem dX1_meltAt_39 : decode cX1_meltAt 39 = .ok (.iload_n 1, 1) := by decide +kernel
theorem dX1_meltAt_40 : decode cX1_meltAt 40 = .ok (.invokevirtual 36, 3) := by decide +kernel
theorem dX1_meltAt_43 : decode cX1_meltAt 43 = .ok (.aload_n 0, 1) := by decide +kernel
theorem dX1_meltAt_44 : decode cX1_meltAt 44 = .ok (.iload_n 1, 1) := by decide +kernel
theorem dX1_meltAt_45 : decode cX1_meltAt 45 = .ok (.iconst 1, 1) := by decide +kernel
theorem dX1_meltAt_46 : decode cX1_meltAt 46 = .ok (.iadd, 1) := by decide +kernel
theorem dX1_meltAt_47 : decode cX1_meltAt 47 = .ok (.invokevirtual 36, 3) := by decide +kernel
theorem dX1_meltAt_50 : decode cX1_meltAt 50 = .ok (.invokevirtual 61, 3) := by decide +kernel
theorem dX1_meltAt_53 : decode cX1_meltAt 53 = .ok (.invokevirtual 50, 3) := by decide +kernel
theorem dX1_meltAt_56 : decode cX1_meltAt 56 = .ok (.pop, 1) := by decide +kernel
theorem dX1_meltAt_57 : decode cX1_meltAt 57 = .ok (.aload_n 0, 1) := by decide +kernel
theorem dX1_meltAt_58 : decode cX1_meltAt 58 = .ok (.getfield 12, 3) := by decide +kernel
theorem dX1_meltAt_61 : decode cX1_meltAt 61 = .ok (.iload_n 1, 1) := by decide +kernel
theorem dX1_meltAt_62 : decode cX1_meltAt 62 = .ok (.iconst 1, 1) := by decide +kernel
theorem dX1_meltAt_63 : decode cX1_meltAt 63 = .ok (.iadd, 1) := by decide +kernel
theorem dX1_meltAt_64 : decode cX1_meltAt 64 = .ok (.invokevirtual 65, 3) := by decide +kernel
theorem dX1_meltAt_67 : decode cX1_meltAt 67 = .ok (.pop, 1) := by decide +kernel
theorem dX1_meltAt_68 : decode cX1_meltAt 68 = .ok (.iconst 1, 1) := by decide +kernel
theorem dX1_meltAt_69 : decode cX1_meltAt 69 = .ok (.ireturn, 1) := by decide +kernel
theorem dX1_turnAt_0 : decode cX1_turnAt 0 = .ok (.aload_n 0, 1) := by decide +kernel
theorem dX1_turnAt_1 : decode cX1_turnAt 1 = .ok (.iload_n 1, 1) := by decide +kernel
theorem dX1_turnAt_2 : decode cX1_turnAt 2 = .ok (.invokevirtual 36, 3) := by decide +kernel
theorem dX1_turnAt_5 : decode cX1_turnAt 5 = .ok (.invokevirtual 68, 3) := by decide +kernel
theorem dX1_turnAt_8 : decode cX1_turnAt 8 = .ok (.istore_n 2, 1) := by decide +kernel
theorem dX1_turnAt_9 : decode cX1_turnAt 9 = .ok (.iload_n 2, 1) := by decide +kernel
theorem dX1_turnAt_10 : decode cX1_turnAt 10 = .ok (.ifCond .eq 20, 3) := by decide +kernel
theorem dX1_turnAt_13 : decode cX1_turnAt 13 = .ok (.aload_n 0, 1) := by decide +kernel
theorem dX1_turnAt_14 : decode cX1_turnAt 14 = .ok (.getfield 12, 3) := by decide +kernel
theorem dX1_turnAt_17 : decode cX1_turnAt 17 = .ok (.iload_n 1, 1) := by decide +kernel
theorem dX1_turnAt_18 : decode cX1_turnAt 18 = .ok (.aload_n 0, 1) := by decide +kernel
theorem dX1_turnAt_19 : decode cX1_turnAt 19 = .ok (.iload_n 1, 1) := by decide +kernel
theorem dX1_turnAt_20 : decode cX1_turnAt 20 = .ok (.invokevirtual 36, 3) := by decide +kernel
theorem dX1_turnAt_23 : decode cX1_turnAt 23 = .ok (.invokevirtual 72, 3) := by decide +kernel
theorem dX1_turnAt_26 : decode cX1_turnAt 26 = .ok (.invokevirtual 50, 3) := by decide +kernel
theorem dX1_turnAt_29 : decode cX1_turnAt 29 = .ok (.pop, 1) := by decide +kernel
theorem dX1_turnAt_30 : decode cX1_turnAt 30 = .ok (.iload_n 2, 1) := by decide +kernel
theorem dX1_turnAt_31 : decode cX1_turnAt 31 = .ok (.ireturn, 1) := by decide +kernel
theorem dX1_easeAt_0 : decode cX1_easeAt 0 = .ok (.aload_n 0, 1) := by decide +kernel
theorem dX1_easeAt_1 : decode cX1_easeAt 1 = .ok (.iload_n 1, 1) := by decide +kernel
theorem dX1_easeAt_2 : decode cX1_easeAt 2 = .ok (.invokevirtual 36, 3) := by decide +kernel
theorem dX1_easeAt_5 : decode cX1_easeAt 5 = .ok (.invokevirtual 76, 3) := by decide +kernel
theorem dX1_easeAt_8 : decode cX1_easeAt 8 = .ok (.istore_n 2, 1) := by decide +kernel
theorem dX1_easeAt_9 : decode cX1_easeAt 9 = .ok (.iload_n 2, 1) := by decide +kernel
theorem dX1_easeAt_10 : decode cX1_easeAt 10 = .ok (.ifCond .eq 20, 3) := by decide +kernel
theorem dX1_easeAt_13 : decode cX1_easeAt 13 = .ok (.aload_n 0, 1) := by decide +kernel
theorem dX1_easeAt_14 : decode cX1_easeAt 14 = .ok (.getfield 12, 3) := by decide +kernel
theorem dX1_easeAt_17 : decode cX1_easeAt 17 = .ok (.iload_n 1, 1) := by decide +kernel
theorem dX1_easeAt_18 : decode cX1_easeAt 18 = .ok (.aload_n 0, 1) := by decide +kernel
theorem dX1_easeAt_19 : decode cX1_easeAt 19 = .ok (.iload_n 1, 1) := by decide +kernel
theorem dX1_easeAt_20 : decode cX1_easeAt 20 = .ok (.invokevirtual 36, 3) := by decide +kernel
theorem dX1_easeAt_23 : decode cX1_easeAt 23 = .ok (.invokevirtual 79, 3) := by decide +kernel
theorem dX1_easeAt_26 : decode cX1_easeAt 26 = .ok (.invokevirtual 50, 3) := by decide +kernel
theorem dX1_easeAt_29 : decode cX1_easeAt 29 = .ok (.pop, 1) := by decide +kernel
theorem dX1_easeAt_30 : decode cX1_easeAt 30 = .ok (.iload_n 2, 1) := by decide +kernel
theorem dX1_easeAt_31 : decode cX1_easeAt 31 = .ok (.ireturn, 1) := by decide +kernel
theorem dX1_price_0 : decode cX1_price 0 = .ok (.iconst 0, 1) := by decide +kernel
theorem dX1_price_1 : decode cX1_price 1 = .ok (.istore_n 1, 1) := by decide +kernel
theorem dX1_price_2 : decode cX1_price 2 = .ok (.iconst 0, 1) := by decide +kernel
theorem dX1_price_3 : decode cX1_price 3 = .ok (.istore_n 2, 1) := by decide +kernel
theorem dX1_price_4 : decode cX1_price 4 = .ok (.iload_n 2, 1) := by decide +kernel
theorem dX1_price_5 : decode cX1_price 5 = .ok (.aload_n 0, 1) := by decide +kernel
theorem dX1_price_6 : decode cX1_price 6 = .ok (.getfield 12, 3) := by decide +kernel
theorem dX1_price_9 : decode cX1_price 9 = .ok (.invokevirtual 18, 3) := by decide +kernel
theorem dX1_price_12 : decode cX1_price 12 = .ok (.if_icmp .ge 27, 3) := by decide +kernel
theorem dX1_price_15 : decode cX1_price 15 = .ok (.aload_n 0, 1) := by decide +kernel
theorem dX1_price_16 : decode cX1_price 16 = .ok (.iload_n 2, 1) := by decide +kernel
theorem dX1_price_17 : decode cX1_price 17 = .ok (.invokevirtual 36, 3) := by decide +kernel
theorem dX1_price_20 : decode cX1_price 20 = .ok (.astore_n 3, 1) := by decide +kernel
theorem dX1_price_21 : decode cX1_price 21 = .ok (.iload_n 1, 1) := by decide +kernel
theorem dX1_price_22 : decode cX1_price 22 = .ok (.aload_n 3, 1) := by decide +kernel
theorem dX1_price_23 : decode cX1_price 23 = .ok (.aload_n 3, 1) := by decide +kernel
theorem dX1_price_24 : decode cX1_price 24 = .ok (.getfield 43, 3) := by decide +kernel
theorem dX1_price_27 : decode cX1_price 27 = .ok (.arraylength, 1) := by decide +kernel
theorem dX1_price_28 : decode cX1_price 28 = .ok (.invokevirtual 82, 3) := by decide +kernel
theorem dX1_price_31 : decode cX1_price 31 = .ok (.iadd, 1) := by decide +kernel
theorem dX1_price_32 : decode cX1_price 32 = .ok (.istore_n 1, 1) := by decide +kernel
theorem dX1_price_33 : decode cX1_price 33 = .ok (.iinc 2 1, 3) := by decide +kernel
theorem dX1_price_36 : decode cX1_price 36 = .ok (.goto (-32), 3) := by decide +kernel
theorem dX1_price_39 : decode cX1_price 39 = .ok (.iload_n 1, 1) := by decide +kernel
theorem dX1_price_40 : decode cX1_price 40 = .ok (.ireturn, 1) := by decide +kernel
theorem dX1_becomePlainest_0 : decode cX1_becomePlainest 0 = .ok (.aload_n 0, 1) := by decide +kernel
theorem dX1_becomePlainest_1 : decode cX1_becomePlainest 1 = .ok (.getfield 12, 3) := by decide +kernel
theorem dX1_becomePlainest_4 : decode cX1_becomePlainest 4 = .ok (.invokevirtual 28, 3) := by decide +kernel
theorem dX1_becomePlainest_7 : decode cX1_becomePlainest 7 = .ok (.iconst 0, 1) := by decide +kernel
theorem dX1_becomePlainest_8 : decode cX1_becomePlainest 8 = .ok (.istore_n 2, 1) := by decide +kernel
theorem dX1_becomePlainest_9 : decode cX1_becomePlainest 9 = .ok (.iload_n 2, 1) := by decide +kernel
theorem dX1_becomePlainest_10 : decode cX1_becomePlainest 10 = .ok (.aload_n 1, 1) := by decide +kernel
theorem dX1_becomePlainest_11 : decode cX1_becomePlainest 11 = .ok (.invokevirtual 35, 3) := by decide +kernel
theorem dX1_becomePlainest_14 : decode cX1_becomePlainest 14 = .ok (.if_icmp .ge 18, 3) := by decide +kernel
theorem dX1_becomePlainest_17 : decode cX1_becomePlainest 17 = .ok (.aload_n 0, 1) := by decide +kernel
theorem dX1_becomePlainest_18 : decode cX1_becomePlainest 18 = .ok (.aload_n 1, 1) := by decide +kernel
theorem dX1_becomePlainest_19 : decode cX1_becomePlainest 19 = .ok (.iload_n 2, 1) := by decide +kernel
theorem dX1_becomePlainest_20 : decode cX1_becomePlainest 20 = .ok (.invokevirtual 36, 3) := by decide +kernel
theorem dX1_becomePlainest_23 : decode cX1_becomePlainest 23 = .ok (.invokevirtual 86, 3) := by decide +kernel
theorem dX1_becomePlainest_26 : decode cX1_becomePlainest 26 = .ok (.iinc 2 1, 3) := by decide +kernel
theorem dX1_becomePlainest_29 : decode cX1_becomePlainest 29 = .ok (.goto (-20), 3) := by decide +kernel
theorem dX1_becomePlainest_32 : decode cX1_becomePlainest 32 = .ok (.return_, 1) := by decide +kernel
theorem dX1_addPlainest_0 : decode cX1_addPlainest 0 = .ok (.aload_n 1, 1) := by decide +kernel
theorem dX1_addPlainest_1 : decode cX1_addPlainest 1 = .ok (.invokevirtual 76, 3) := by decide +kernel
theorem dX1_addPlainest_4 : decode cX1_addPlainest 4 = .ok (.ifCond .eq 10, 3) := by decide +kernel
theorem dX1_addPlainest_7 : decode cX1_addPlainest 7 = .ok (.aload_n 1, 1) := by decide +kernel
theorem dX1_addPlainest_8 : decode cX1_addPlainest 8 = .ok (.invokevirtual 79, 3) := by decide +kernel
theorem dX1_addPlainest_11 : decode cX1_addPlainest 11 = .ok (.goto 4, 3) := by decide +kernel
theorem dX1_addPlainest_14 : decode cX1_addPlainest 14 = .ok (.aload_n 1, 1) := by decide +kernel
theorem dX1_addPlainest_15 : decode cX1_addPlainest 15 = .ok (.astore_n 2, 1) := by decide +kernel
theorem dX1_addPlainest_16 : decode cX1_addPlainest 16 = .ok (.aload_n 1, 1) := by decide +kernel
theorem dX1_addPlainest_17 : decode cX1_addPlainest 17 = .ok (.astore_n 3, 1) := by decide +kernel
theorem dX1_addPlainest_18 : decode cX1_addPlainest 18 = .ok (.iconst 0, 1) := by decide +kernel
theorem dX1_addPlainest_19 : decode cX1_addPlainest 19 = .ok (.istore 4, 2) := by decide +kernel
theorem dX1_addPlainest_21 : decode cX1_addPlainest 21 = .ok (.aload_n 1, 1) := by decide +kernel
theorem dX1_addPlainest_22 : decode cX1_addPlainest 22 = .ok (.aload_n 1, 1) := by decide +kernel
theorem dX1_addPlainest_23 : decode cX1_addPlainest 23 = .ok (.getfield 43, 3) := by decide +kernel
theorem dX1_addPlainest_26 : decode cX1_addPlainest 26 = .ok (.arraylength, 1) := by decide +kernel
theorem dX1_addPlainest_27 : decode cX1_addPlainest 27 = .ok (.invokevirtual 82, 3) := by decide +kernel
theorem dX1_addPlainest_30 : decode cX1_addPlainest 30 = .ok (.istore 5, 2) := by decide +kernel
theorem dX1_addPlainest_32 : decode cX1_addPlainest 32 = .ok (.iconst 1, 1) := by decide +kernel
theorem dX1_addPlainest_33 : decode cX1_addPlainest 33 = .ok (.istore 6, 2) := by decide +kernel
theorem dX1_addPlainest_35 : decode cX1_addPlainest 35 = .ok (.iload 6, 2) := by decide +kernel
theorem dX1_addPlainest_37 : decode cX1_addPlainest 37 = .ok (.bipush 8, 2) := by decide +kernel
theorem dX1_addPlainest_39 : decode cX1_addPlainest 39 = .ok (.if_icmp .ge 192, 3) := by decide +kernel
theorem dX1_addPlainest_42 : decode cX1_addPlainest 42 = .ok (.iload 6, 2) := by decide +kernel
theorem dX1_addPlainest_44 : decode cX1_addPlainest 44 = .ok (.iconst 4, 1) := by decide +kernel
theorem dX1_addPlainest_45 : decode cX1_addPlainest 45 = .ok (.iand, 1) := by decide +kernel
theorem dX1_addPlainest_46 : decode cX1_addPlainest 46 = .ok (.ifCond .eq 7, 3) := by decide +kernel
theorem dX1_addPlainest_49 : decode cX1_addPlainest 49 = .ok (.iconst 1, 1) := by decide +kernel
theorem dX1_addPlainest_50 : decode cX1_addPlainest 50 = .ok (.goto 4, 3) := by decide +kernel
theorem dX1_addPlainest_53 : decode cX1_addPlainest 53 = .ok (.iconst 0, 1) := by decide +kernel
theorem dX1_addPlainest_54 : decode cX1_addPlainest 54 = .ok (.istore 7, 2) := by decide +kernel
theorem dX1_addPlainest_56 : decode cX1_addPlainest 56 = .ok (.iload 6, 2) := by decide +kernel
theorem dX1_addPlainest_58 : decode cX1_addPlainest 58 = .ok (.iconst 2, 1) := by decide +kernel
theorem dX1_addPlainest_59 : decode cX1_addPlainest 59 = .ok (.iand, 1) := by decide +kernel
theorem dX1_addPlainest_60 : decode cX1_addPlainest 60 = .ok (.ifCond .eq 7, 3) := by decide +kernel
theorem dX1_addPlainest_63 : decode cX1_addPlainest 63 = .ok (.iconst 1, 1) := by decide +kernel
theorem dX1_addPlainest_64 : decode cX1_addPlainest 64 = .ok (.goto 4, 3) := by decide +kernel
theorem dX1_addPlainest_67 : decode cX1_addPlainest 67 = .ok (.iconst 0, 1) := by decide +kernel
theorem dX1_addPlainest_68 : decode cX1_addPlainest 68 = .ok (.istore 8, 2) := by decide +kernel
theorem dX1_addPlainest_70 : decode cX1_addPlainest 70 = .ok (.iload 6, 2) := by decide +kernel
theorem dX1_addPlainest_72 : decode cX1_addPlainest 72 = .ok (.iconst 1, 1) := by decide +kernel
theorem dX1_addPlainest_73 : decode cX1_addPlainest 73 = .ok (.iand, 1) := by decide +kernel
theorem dX1_addPlainest_74 : decode cX1_addPlainest 74 = .ok (.ifCond .eq 7, 3) := by decide +kernel
theorem dX1_addPlainest_77 : decode cX1_addPlainest 77 = .ok (.iconst 1, 1) := by decide +kernel
theorem dX1_addPlainest_78 : decode cX1_addPlainest 78 = .ok (.goto 4, 3) := by decide +kernel
theorem dX1_addPlainest_81 : decode cX1_addPlainest 81 = .ok (.iconst 0, 1) := by decide +kernel
theorem dX1_addPlainest_82 : decode cX1_addPlainest 82 = .ok (.istore 9, 2) := by decide +kernel
theorem dX1_addPlainest_84 : decode cX1_addPlainest 84 = .ok (.iload 7, 2) := by decide +kernel
theorem dX1_addPlainest_86 : decode cX1_addPlainest 86 = .ok (.ifCond .eq 12, 3) := by decide +kernel
theorem dX1_addPlainest_89 : decode cX1_addPlainest 89 = .ok (.aload_n 1, 1) := by decide +kernel
theorem dX1_addPlainest_90 : decode cX1_addPlainest 90 = .ok (.getfield 43, 3) := by decide +kernel
theorem dX1_addPlainest_93 : decode cX1_addPlainest 93 = .ok (.arraylength, 1) := by decide +kernel
theorem dX1_addPlainest_94 : decode cX1_addPlainest 94 = .ok (.iconst 2, 1) := by decide +kernel
theorem dX1_addPlainest_95 : decode cX1_addPlainest 95 = .ok (.if_icmp .lt 130, 3) := by decide +kernel
theorem dX1_addPlainest_98 : decode cX1_addPlainest 98 = .ok (.iload 8, 2) := by decide +kernel
theorem dX1_addPlainest_100 : decode cX1_addPlainest 100 = .ok (.ifCond .eq 10, 3) := by decide +kernel
theorem dX1_addPlainest_103 : decode cX1_addPlainest 103 = .ok (.aload_n 1, 1) := by decide +kernel
theorem dX1_addPlainest_104 : decode cX1_addPlainest 104 = .ok (.invokevirtual 68, 3) := by decide +kernel
theorem dX1_addPlainest_107 : decode cX1_addPlainest 107 = .ok (.ifCond .eq 118, 3) := by decide +kernel
theorem dX1_addPlainest_110 : decode cX1_addPlainest 110 = .ok (.iload 9, 2) := by decide +kernel
theorem dX1_addPlainest_112 : decode cX1_addPlainest 112 = .ok (.ifCond .eq 13, 3) := by decide +kernel
theorem dX1_addPlainest_115 : decode cX1_addPlainest 115 = .ok (.aload_n 1, 1) := by decide +kernel
theorem dX1_addPlainest_116 : decode cX1_addPlainest 116 = .ok (.invokevirtual 76, 3) := by decide +kernel
theorem dX1_addPlainest_119 : decode cX1_addPlainest 119 = .ok (.ifCond .ne 6, 3) := by decide +kernel
theorem dX1_addPlainest_122 : decode cX1_addPlainest 122 = .ok (.goto 103, 3) := by decide +kernel
theorem dX1_addPlainest_125 : decode cX1_addPlainest 125 = .ok (.iload 9, 2) := by decide +kernel
theorem dX1_addPlainest_127 : decode cX1_addPlainest 127 = .ok (.ifCond .eq 7, 3) := by decide +kernel
theorem dX1_addPlainest_130 : decode cX1_addPlainest 130 = .ok (.aload_n 2, 1) := by decide +kernel
theorem dX1_addPlainest_131 : decode cX1_addPlainest 131 = .ok (.goto 4, 3) := by decide +kernel
theorem dX1_addPlainest_134 : decode cX1_addPlainest 134 = .ok (.aload_n 1, 1) := by decide +kernel
theorem dX1_addPlainest_135 : decode cX1_addPlainest 135 = .ok (.astore 10, 2) := by decide +kernel
theorem dX1_addPlainest_137 : decode cX1_addPlainest 137 = .ok (.iload 8, 2) := by decide +kernel
theorem dX1_addPlainest_139 : decode cX1_addPlainest 139 = .ok (.ifCond .eq 11, 3) := by decide +kernel
theorem dX1_addPlainest_142 : decode cX1_addPlainest 142 = .ok (.aload 10, 2) := by decide +kernel
theorem dX1_addPlainest_144 : decode cX1_addPlainest 144 = .ok (.invokevirtual 72, 3) := by decide +kernel
theorem dX1_addPlainest_147 : decode cX1_addPlainest 147 = .ok (.goto 5, 3) := by decide +kernel
theorem dX1_addPlainest_150 : decode cX1_addPlainest 150 = .ok (.aload 10, 2) := by decide +kernel
theorem dX1_addPlainest_152 : decode cX1_addPlainest 152 = .ok (.astore 10, 2) := by decide +kernel
theorem dX1_addPlainest_154 : decode cX1_addPlainest 154 = .ok (.iload 7, 2) := by decide +kernel
theorem dX1_addPlainest_156 : decode cX1_addPlainest 156 = .ok (.ifCond .eq 18, 3) := by decide +kernel
theorem dX1_addPlainest_159 : decode cX1_addPlainest 159 = .ok (.aload_n 1, 1) := by decide +kernel
theorem dX1_addPlainest_160 : decode cX1_addPlainest 160 = .ok (.getfield 43, 3) := by decide +kernel
theorem dX1_addPlainest_163 : decode cX1_addPlainest 163 = .ok (.arraylength, 1) := by decide +kernel
theorem dX1_addPlainest_164 : decode cX1_addPlainest 164 = .ok (.aload 10, 2) := by decide +kernel
theorem dX1_addPlainest_166 : decode cX1_addPlainest 166 = .ok (.iconst 1, 1) := by decide +kernel
theorem dX1_addPlainest_167 : decode cX1_addPlainest 167 = .ok (.invokevirtual 82, 3) := by decide +kernel
theorem dX1_addPlainest_170 : decode cX1_addPlainest 170 = .ok (.imul, 1) := by decide +kernel
theorem dX1_addPlainest_171 : decode cX1_addPlainest 171 = .ok (.goto 14, 3) := by decide +kernel
theorem dX1_addPlainest_174 : decode cX1_addPlainest 174 = .ok (.aload 10, 2) := by decide +kernel
theorem dX1_addPlainest_176 : decode cX1_addPlainest 176 = .ok (.aload 10, 2) := by decide +kernel
theorem dX1_addPlainest_178 : decode cX1_addPlainest 178 = .ok (.getfield 43, 3) := by decide +kernel
theorem dX1_addPlainest_181 : decode cX1_addPlainest 181 = .ok (.arraylength, 1) := by decide +kernel
theorem dX1_addPlainest_182 : decode cX1_addPlainest 182 = .ok (.invokevirtual 82, 3) := by decide +kernel
theorem dX1_addPlainest_185 : decode cX1_addPlainest 185 = .ok (.istore 11, 2) := by decide +kernel
theorem dX1_addPlainest_187 : decode cX1_addPlainest 187 = .ok (.iload 11, 2) := by decide +kernel
theorem dX1_addPlainest_189 : decode cX1_addPlainest 189 = .ok (.iload 5, 2) := by decide +kernel
theorem dX1_addPlainest_191 : decode cX1_addPlainest 191 = .ok (.if_icmp .lt 23, 3) := by decide +kernel
theorem dX1_addPlainest_194 : decode cX1_addPlainest 194 = .ok (.iload 11, 2) := by decide +kernel
theorem dX1_addPlainest_196 : decode cX1_addPlainest 196 = .ok (.iload 5, 2) := by decide +kernel
theorem dX1_addPlainest_198 : decode cX1_addPlainest 198 = .ok (.if_icmp .ne 27, 3) := by decide +kernel
theorem dX1_addPlainest_201 : decode cX1_addPlainest 201 = .ok (.iload 6, 2) := by decide +kernel
theorem dX1_addPlainest_203 : decode cX1_addPlainest 203 = .ok (.invokestatic 89, 3) := by decide +kernel
theorem dX1_addPlainest_206 : decode cX1_addPlainest 206 = .ok (.iload 4, 2) := by decide +kernel
theorem dX1_addPlainest_208 : decode cX1_addPlainest 208 = .ok (.invokestatic 89, 3) := by decide +kernel
theorem dX1_addPlainest_211 : decode cX1_addPlainest 211 = .ok (.if_icmp .ge 14, 3) := by decide +kernel
theorem dX1_addPlainest_214 : decode cX1_addPlainest 214 = .ok (.aload 10, 2) := by decide +kernel
theorem dX1_addPlainest_216 : decode cX1_addPlainest 216 = .ok (.astore_n 3, 1) := by decide +kernel
theorem dX1_addPlainest_217 : decode cX1_addPlainest 217 = .ok (.iload 6, 2) := by decide +kernel
theorem dX1_addPlainest_219 : decode cX1_addPlainest 219 = .ok (.istore 4, 2) := by decide +kernel
theorem dX1_addPlainest_221 : decode cX1_addPlainest 221 = .ok (.iload 11, 2) := by decide +kernel
theorem dX1_addPlainest_223 : decode cX1_addPlainest 223 = .ok (.istore 5, 2) := by decide +kernel
theorem dX1_addPlainest_225 : decode cX1_addPlainest 225 = .ok (.iinc 6 1, 3) := by decide +kernel
theorem dX1_addPlainest_228 : decode cX1_addPlainest 228 = .ok (.goto (-193), 3) := by decide +kernel
theorem dX1_addPlainest_231 : decode cX1_addPlainest 231 = .ok (.aload_n 0, 1) := by decide +kernel
theorem dX1_addPlainest_232 : decode cX1_addPlainest 232 = .ok (.aload_n 3, 1) := by decide +kernel
theorem dX1_addPlainest_233 : decode cX1_addPlainest 233 = .ok (.iload 4, 2) := by decide +kernel
theorem dX1_addPlainest_235 : decode cX1_addPlainest 235 = .ok (.iconst 4, 1) := by decide +kernel
theorem dX1_addPlainest_236 : decode cX1_addPlainest 236 = .ok (.iand, 1) := by decide +kernel
theorem dX1_addPlainest_237 : decode cX1_addPlainest 237 = .ok (.ifCond .eq 7, 3) := by decide +kernel
theorem dX1_addPlainest_240 : decode cX1_addPlainest 240 = .ok (.iconst 1, 1) := by decide +kernel
theorem dX1_addPlainest_241 : decode cX1_addPlainest 241 = .ok (.goto 4, 3) := by decide +kernel
theorem dX1_addPlainest_244 : decode cX1_addPlainest 244 = .ok (.iconst 0, 1) := by decide +kernel
theorem dX1_addPlainest_245 : decode cX1_addPlainest 245 = .ok (.invokevirtual 94, 3) := by decide +kernel
theorem dX1_addPlainest_248 : decode cX1_addPlainest 248 = .ok (.return_, 1) := by decide +kernel
theorem dX1_addWhole_0 : decode cX1_addWhole 0 = .ok (.iload_n 2, 1) := by decide +kernel
theorem dX1_addWhole_1 : decode cX1_addWhole 1 = .ok (.ifCond .ne 9, 3) := by decide +kernel
theorem dX1_addWhole_4 : decode cX1_addWhole 4 = .ok (.aload_n 0, 1) := by decide +kernel
theorem dX1_addWhole_5 : decode cX1_addWhole 5 = .ok (.aload_n 1, 1) := by decide +kernel
theorem dX1_addWhole_6 : decode cX1_addWhole 6 = .ok (.invokevirtual 40, 3) := by decide +kernel
theorem dX1_addWhole_9 : decode cX1_addWhole 9 = .ok (.return_, 1) := by decide +kernel
theorem dX1_addWhole_10 : decode cX1_addWhole 10 = .ok (.iconst 0, 1) := by decide +kernel
theorem dX1_addWhole_11 : decode cX1_addWhole 11 = .ok (.istore_n 3, 1) := by decide +kernel
theorem dX1_addWhole_12 : decode cX1_addWhole 12 = .ok (.iload_n 3, 1) := by decide +kernel
theorem dX1_addWhole_13 : decode cX1_addWhole 13 = .ok (.aload_n 1, 1) := by decide +kernel
theorem dX1_addWhole_14 : decode cX1_addWhole 14 = .ok (.getfield 43, 3) := by decide +kernel
theorem dX1_addWhole_17 : decode cX1_addWhole 17 = .ok (.arraylength, 1) := by decide +kernel
theorem dX1_addWhole_18 : decode cX1_addWhole 18 = .ok (.if_icmp .ge 18, 3) := by decide +kernel
theorem dX1_addWhole_21 : decode cX1_addWhole 21 = .ok (.aload_n 0, 1) := by decide +kernel
theorem dX1_addWhole_22 : decode cX1_addWhole 22 = .ok (.aload_n 1, 1) := by decide +kernel
theorem dX1_addWhole_23 : decode cX1_addWhole 23 = .ok (.iload_n 3, 1) := by decide +kernel
theorem dX1_addWhole_24 : decode cX1_addWhole 24 = .ok (.invokevirtual 47, 3) := by decide +kernel
theorem dX1_addWhole_27 : decode cX1_addWhole 27 = .ok (.invokevirtual 40, 3) := by decide +kernel
theorem dX1_addWhole_30 : decode cX1_addWhole 30 = .ok (.iinc 3 1, 3) := by decide +kernel
theorem dX1_addWhole_33 : decode cX1_addWhole 33 = .ok (.goto (-21), 3) := by decide +kernel
theorem dX1_addWhole_36 : decode cX1_addWhole 36 = .ok (.return_, 1) := by decide +kernel
theorem dX1_isWithin_0 : decode cX1_isWithin 0 = .ok (.iconst 0, 1) := by decide +kernel
theorem dX1_isWithin_1 : decode cX1_isWithin 1 = .ok (.istore_n 2, 1) := by decide +kernel
theorem dX1_isWithin_2 : decode cX1_isWithin 2 = .ok (.iload_n 2, 1) := by decide +kernel
theorem dX1_isWithin_3 : decode cX1_isWithin 3 = .ok (.aload_n 0, 1) := by decide +kernel
theorem dX1_isWithin_4 : decode cX1_isWithin 4 = .ok (.getfield 12, 3) := by decide +kernel
theorem dX1_isWithin_7 : decode cX1_isWithin 7 = .ok (.invokevirtual 18, 3) := by decide +kernel
theorem dX1_isWithin_10 : decode cX1_isWithin 10 = .ok (.if_icmp .ge 75, 3) := by decide +kernel
theorem dX1_isWithin_13 : decode cX1_isWithin 13 = .ok (.aload_n 0, 1) := by decide +kernel
theorem dX1_isWithin_14 : decode cX1_isWithin 14 = .ok (.iload_n 2, 1) := by decide +kernel
theorem dX1_isWithin_15 : decode cX1_isWithin 15 = .ok (.invokevirtual 36, 3) := by decide +kernel
theorem dX1_isWithin_18 : decode cX1_isWithin 18 = .ok (.astore_n 3, 1) := by decide +kernel
theorem dX1_isWithin_19 : decode cX1_isWithin 19 = .ok (.aload_n 3, 1) := by decide +kernel
theorem dX1_isWithin_20 : decode cX1_isWithin 20 = .ok (.getfield 43, 3) := by decide +kernel
theorem dX1_isWithin_23 : decode cX1_isWithin 23 = .ok (.astore 4, 2) := by decide +kernel
theorem dX1_isWithin_25 : decode cX1_isWithin 25 = .ok (.aload 4, 2) := by decide +kernel
theorem dX1_isWithin_27 : decode cX1_isWithin 27 = .ok (.arraylength, 1) := by decide +kernel
theorem dX1_isWithin_28 : decode cX1_isWithin 28 = .ok (.istore 5, 2) := by decide +kernel
theorem dX1_isWithin_30 : decode cX1_isWithin 30 = .ok (.iconst 0, 1) := by decide +kernel
theorem dX1_isWithin_31 : decode cX1_isWithin 31 = .ok (.istore 6, 2) := by decide +kernel
theorem dX1_isWithin_33 : decode cX1_isWithin 33 = .ok (.iload 6, 2) := by decide +kernel
theorem dX1_isWithin_35 : decode cX1_isWithin 35 = .ok (.iload 5, 2) := by decide +kernel
theorem dX1_isWithin_37 : decode cX1_isWithin 37 = .ok (.if_icmp .ge 42, 3) := by decide +kernel
theorem dX1_isWithin_40 : decode cX1_isWithin 40 = .ok (.aload 4, 2) := by decide +kernel
theorem dX1_isWithin_42 : decode cX1_isWithin 42 = .ok (.iload 6, 2) := by decide +kernel
theorem dX1_isWithin_44 : decode cX1_isWithin 44 = .ok (.iaload, 1) := by decide +kernel
theorem dX1_isWithin_45 : decode cX1_isWithin 45 = .ok (.istore 7, 2) := by decide +kernel
theorem dX1_isWithin_47 : decode cX1_isWithin 47 = .ok (.aload_n 0, 1) := by decide +kernel
theorem dX1_isWithin_48 : decode cX1_isWithin 48 = .ok (.aload_n 3, 1) := by decide +kernel
theorem dX1_isWithin_49 : decode cX1_isWithin 49 = .ok (.iload 7, 2) := by decide +kernel
theorem dX1_isWithin_51 : decode cX1_isWithin 51 = .ok (.invokevirtual 98, 3) := by decide +kernel
theorem dX1_isWithin_54 : decode cX1_isWithin 54 = .ok (.aload_n 1, 1) := by decide +kernel
theorem dX1_isWithin_55 : decode cX1_isWithin 55 = .ok (.aload_n 3, 1) := by decide +kernel
theorem dX1_isWithin_56 : decode cX1_isWithin 56 = .ok (.iload 7, 2) := by decide +kernel
theorem dX1_isWithin_58 : decode cX1_isWithin 58 = .ok (.invokevirtual 98, 3) := by decide +kernel
theorem dX1_isWithin_61 : decode cX1_isWithin 61 = .ok (.ldc2_w 102, 3) := by decide +kernel
theorem dX1_isWithin_64 : decode cX1_isWithin 64 = .ok (.lxor, 1) := by decide +kernel
theorem dX1_isWithin_65 : decode cX1_isWithin 65 = .ok (.land, 1) := by decide +kernel
theorem dX1_isWithin_66 : decode cX1_isWithin 66 = .ok (.lconst 0, 1) := by decide +kernel
theorem dX1_isWithin_67 : decode cX1_isWithin 67 = .ok (.lcmp, 1) := by decide +kernel
theorem dX1_isWithin_68 : decode cX1_isWithin 68 = .ok (.ifCond .eq 5, 3) := by decide +kernel
theorem dX1_isWithin_71 : decode cX1_isWithin 71 = .ok (.iconst 0, 1) := by decide +kernel
theorem dX1_isWithin_72 : decode cX1_isWithin 72 = .ok (.ireturn, 1) := by decide +kernel
theorem dX1_isWithin_73 : decode cX1_isWithin 73 = .ok (.iinc 6 1, 3) := by decide +kernel
theorem dX1_isWithin_76 : decode cX1_isWithin 76 = .ok (.goto (-43), 3) := by decide +kernel
theorem dX1_isWithin_79 : decode cX1_isWithin 79 = .ok (.iinc 2 1, 3) := by decide +kernel
theorem dX1_isWithin_82 : decode cX1_isWithin 82 = .ok (.goto (-80), 3) := by decide +kernel
theorem dX1_isWithin_85 : decode cX1_isWithin 85 = .ok (.iconst 1, 1) := by decide +kernel
theorem dX1_isWithin_86 : decode cX1_isWithin 86 = .ok (.ireturn, 1) := by decide +kernel
theorem dX1_casesAsking_0 : decode cX1_casesAsking 0 = .ok (.lconst 0, 1) := by decide +kernel
theorem dX1_casesAsking_1 : decode cX1_casesAsking 1 = .ok (.lstore_n 3, 1) := by decide +kernel
theorem dX1_casesAsking_2 : decode cX1_casesAsking 2 = .ok (.iconst 0, 1) := by decide +kernel
theorem dX1_casesAsking_3 : decode cX1_casesAsking 3 = .ok (.istore 5, 2) := by decide +kernel
theorem dX1_casesAsking_5 : decode cX1_casesAsking 5 = .ok (.iload 5, 2) := by decide +kernel
theorem dX1_casesAsking_7 : decode cX1_casesAsking 7 = .ok (.aload_n 0, 1) := by decide +kernel
theorem dX1_casesAsking_8 : decode cX1_casesAsking 8 = .ok (.getfield 12, 3) := by decide +kernel
theorem dX1_casesAsking_11 : decode cX1_casesAsking 11 = .ok (.invokevirtual 18, 3) := by decide +kernel
theorem dX1_casesAsking_14 : decode cX1_casesAsking 14 = .ok (.if_icmp .ge 43, 3) := by decide +kernel
theorem dX1_casesAsking_17 : decode cX1_casesAsking 17 = .ok (.aload_n 0, 1) := by decide +kernel
theorem dX1_casesAsking_18 : decode cX1_casesAsking 18 = .ok (.iload 5, 2) := by decide +kernel
theorem dX1_casesAsking_20 : decode cX1_casesAsking 20 = .ok (.invokevirtual 36, 3) := by decide +kernel
theorem dX1_casesAsking_23 : decode cX1_casesAsking 23 = .ok (.astore 6, 2) := by decide +kernel
theorem dX1_casesAsking_25 : decode cX1_casesAsking 25 = .ok (.aload 6, 2) := by decide +kernel
theorem dX1_casesAsking_27 : decode cX1_casesAsking 27 = .ok (.aload_n 1, 1) := by decide +kernel
theorem dX1_casesAsking_28 : decode cX1_casesAsking 28 = .ok (.invokevirtual 104, 3) := by decide +kernel
theorem dX1_casesAsking_31 : decode cX1_casesAsking 31 = .ok (.ifCond .eq 20, 3) := by decide +kernel
theorem dX1_casesAsking_34 : decode cX1_casesAsking 34 = .ok (.aload 6, 2) := by decide +kernel
theorem dX1_casesAsking_36 : decode cX1_casesAsking 36 = .ok (.iload_n 2, 1) := by decide +kernel
theorem dX1_casesAsking_37 : decode cX1_casesAsking 37 = .ok (.invokevirtual 107, 3) := by decide +kernel
theorem dX1_casesAsking_40 : decode cX1_casesAsking 40 = .ok (.ifCond .eq 11, 3) := by decide +kernel
theorem dX1_casesAsking_43 : decode cX1_casesAsking 43 = .ok (.lload_n 3, 1) := by decide +kernel
theorem dX1_casesAsking_44 : decode cX1_casesAsking 44 = .ok (.aload 6, 2) := by decide +kernel
theorem dX1_casesAsking_46 : decode cX1_casesAsking 46 = .ok (.invokevirtual 111, 3) := by decide +kernel
theorem dX1_casesAsking_49 : decode cX1_casesAsking 49 = .ok (.lor, 1) := by decide +kernel
theorem dX1_casesAsking_50 : decode cX1_casesAsking 50 = .ok (.lstore_n 3, 1) := by decide +kernel
theorem dX1_casesAsking_51 : decode cX1_casesAsking 51 = .ok (.iinc 5 1, 3) := by decide +kernel
theorem dX1_casesAsking_54 : decode cX1_casesAsking 54 = .ok (.goto (-49), 3) := by decide +kernel
theorem dX1_casesAsking_57 : decode cX1_casesAsking 57 = .ok (.lload_n 3, 1) := by decide +kernel
theorem dX1_casesAsking_58 : decode cX1_casesAsking 58 = .ok (.lreturn, 1) := by decide +kernel
theorem dX1_modesAsked_0 : decode cX1_modesAsked 0 = .ok (.iconst 0, 1) := by decide +kernel
theorem dX1_modesAsked_1 : decode cX1_modesAsked 1 = .ok (.istore 4, 2) := by decide +kernel
theorem dX1_modesAsked_3 : decode cX1_modesAsked 3 = .ok (.iconst 0, 1) := by decide +kernel
theorem dX1_modesAsked_4 : decode cX1_modesAsked 4 = .ok (.istore 5, 2) := by decide +kernel
theorem dX1_modesAsked_6 : decode cX1_modesAsked 6 = .ok (.iload 5, 2) := by decide +kernel
theorem dX1_modesAsked_8 : decode cX1_modesAsked 8 = .ok (.aload_n 0, 1) := by decide +kernel
theorem dX1_modesAsked_9 : decode cX1_modesAsked 9 = .ok (.getfield 12, 3) := by decide +kernel
theorem dX1_modesAsked_12 : decode cX1_modesAsked 12 = .ok (.invokevirtual 18, 3) := by decide +kernel
theorem dX1_modesAsked_15 : decode cX1_modesAsked 15 = .ok (.if_icmp .ge 40, 3) := by decide +kernel
theorem dX1_modesAsked_18 : decode cX1_modesAsked 18 = .ok (.aload_n 0, 1) := by decide +kernel
theorem dX1_modesAsked_19 : decode cX1_modesAsked 19 = .ok (.iload 5, 2) := by decide +kernel
theorem dX1_modesAsked_21 : decode cX1_modesAsked 21 = .ok (.invokevirtual 36, 3) := by decide +kernel
theorem dX1_modesAsked_24 : decode cX1_modesAsked 24 = .ok (.astore 6, 2) := by decide +kernel
theorem dX1_modesAsked_26 : decode cX1_modesAsked 26 = .ok (.aload 6, 2) := by decide +kernel
theorem dX1_modesAsked_28 : decode cX1_modesAsked 28 = .ok (.iload_n 1, 1) := by decide +kernel
theorem dX1_modesAsked_29 : decode cX1_modesAsked 29 = .ok (.iload_n 2, 1) := by decide +kernel
theorem dX1_modesAsked_30 : decode cX1_modesAsked 30 = .ok (.iload_n 3, 1) := by decide +kernel
theorem dX1_modesAsked_31 : decode cX1_modesAsked 31 = .ok (.invokevirtual 115, 3) := by decide +kernel
theorem dX1_modesAsked_34 : decode cX1_modesAsked 34 = .ok (.ifCond .eq 15, 3) := by decide +kernel
theorem dX1_modesAsked_37 : decode cX1_modesAsked 37 = .ok (.iload 4, 2) := by decide +kernel
theorem dX1_modesAsked_39 : decode cX1_modesAsked 39 = .ok (.iconst 1, 1) := by decide +kernel
theorem dX1_modesAsked_40 : decode cX1_modesAsked 40 = .ok (.aload 6, 2) := by decide +kernel
theorem dX1_modesAsked_42 : decode cX1_modesAsked 42 = .ok (.getfield 119, 3) := by decide +kernel
theorem dX1_modesAsked_45 : decode cX1_modesAsked 45 = .ok (.ishl, 1) := by decide +kernel
theorem dX1_modesAsked_46 : decode cX1_modesAsked 46 = .ok (.ior, 1) := by decide +kernel
theorem dX1_modesAsked_47 : decode cX1_modesAsked 47 = .ok (.istore 4, 2) := by decide +kernel
theorem dX1_modesAsked_49 : decode cX1_modesAsked 49 = .ok (.iinc 5 1, 3) := by decide +kernel
theorem dX1_modesAsked_52 : decode cX1_modesAsked 52 = .ok (.goto (-46), 3) := by decide +kernel
theorem dX1_modesAsked_55 : decode cX1_modesAsked 55 = .ok (.iload 4, 2) := by decide +kernel
theorem dX1_modesAsked_57 : decode cX1_modesAsked 57 = .ok (.ireturn, 1) := by decide +kernel
theorem dX1_leastDays_0 : decode cX1_leastDays 0 = .ok (.iconst (-1), 1) := by decide +kernel
theorem dX1_leastDays_1 : decode cX1_leastDays 1 = .ok (.istore 4, 2) := by decide +kernel
theorem dX1_leastDays_3 : decode cX1_leastDays 3 = .ok (.iconst 0, 1) := by decide +kernel
theorem dX1_leastDays_4 : decode cX1_leastDays 4 = .ok (.istore 5, 2) := by decide +kernel
theorem dX1_leastDays_6 : decode cX1_leastDays 6 = .ok (.iload 5, 2) := by decide +kernel
theorem dX1_leastDays_8 : decode cX1_leastDays 8 = .ok (.aload_n 0, 1) := by decide +kernel
theorem dX1_leastDays_9 : decode cX1_leastDays 9 = .ok (.getfield 12, 3) := by decide +kernel
theorem dX1_leastDays_12 : decode cX1_leastDays 12 = .ok (.invokevirtual 18, 3) := by decide +kernel
theorem dX1_leastDays_15 : decode cX1_leastDays 15 = .ok (.if_icmp .ge 71, 3) := by decide +kernel
theorem dX1_leastDays_18 : decode cX1_leastDays 18 = .ok (.aload_n 0, 1) := by decide +kernel
theorem dX1_leastDays_19 : decode cX1_leastDays 19 = .ok (.iload 5, 2) := by decide +kernel
theorem dX1_leastDays_21 : decode cX1_leastDays 21 = .ok (.invokevirtual 36, 3) := by decide +kernel
theorem dX1_leastDays_24 : decode cX1_leastDays 24 = .ok (.astore 6, 2) := by decide +kernel
theorem dX1_leastDays_26 : decode cX1_leastDays 26 = .ok (.aload 6, 2) := by decide +kernel
theorem dX1_leastDays_28 : decode cX1_leastDays 28 = .ok (.getfield 119, 3) := by decide +kernel
theorem dX1_leastDays_31 : decode cX1_leastDays 31 = .ok (.ifCond .ne 49, 3) := by decide +kernel
theorem dX1_leastDays_34 : decode cX1_leastDays 34 = .ok (.aload 6, 2) := by decide +kernel
theorem dX1_leastDays_36 : decode cX1_leastDays 36 = .ok (.getfield 123, 3) := by decide +kernel
theorem dX1_leastDays_39 : decode cX1_leastDays 39 = .ok (.iconst (-1), 1) := by decide +kernel
theorem dX1_leastDays_40 : decode cX1_leastDays 40 = .ok (.if_icmp .eq 40, 3) := by decide +kernel
theorem dX1_leastDays_43 : decode cX1_leastDays 43 = .ok (.aload 6, 2) := by decide +kernel
theorem dX1_leastDays_45 : decode cX1_leastDays 45 = .ok (.iload_n 1, 1) := by decide +kernel
theorem dX1_leastDays_46 : decode cX1_leastDays 46 = .ok (.iload_n 2, 1) := by decide +kernel
theorem dX1_leastDays_47 : decode cX1_leastDays 47 = .ok (.iload_n 3, 1) := by decide +kernel
theorem dX1_leastDays_48 : decode cX1_leastDays 48 = .ok (.invokevirtual 115, 3) := by decide +kernel
theorem dX1_leastDays_51 : decode cX1_leastDays 51 = .ok (.ifCond .eq 29, 3) := by decide +kernel
theorem dX1_leastDays_54 : decode cX1_leastDays 54 = .ok (.iload 4, 2) := by decide +kernel
theorem dX1_leastDays_56 : decode cX1_leastDays 56 = .ok (.iconst (-1), 1) := by decide +kernel
theorem dX1_leastDays_57 : decode cX1_leastDays 57 = .ok (.if_icmp .ne 11, 3) := by decide +kernel
theorem dX1_leastDays_60 : decode cX1_leastDays 60 = .ok (.aload 6, 2) := by decide +kernel
theorem dX1_leastDays_62 : decode cX1_leastDays 62 = .ok (.getfield 123, 3) := by decide +kernel
theorem dX1_leastDays_65 : decode cX1_leastDays 65 = .ok (.goto 13, 3) := by decide +kernel
theorem dX1_leastDays_68 : decode cX1_leastDays 68 = .ok (.iload 4, 2) := by decide +kernel
theorem dX1_leastDays_70 : decode cX1_leastDays 70 = .ok (.aload 6, 2) := by decide +kernel
theorem dX1_leastDays_72 : decode cX1_leastDays 72 = .ok (.getfield 123, 3) := by decide +kernel
theorem dX1_leastDays_75 : decode cX1_leastDays 75 = .ok (.invokestatic 126, 3) := by decide +kernel
theorem dX1_leastDays_78 : decode cX1_leastDays 78 = .ok (.istore 4, 2) := by decide +kernel
theorem dX1_leastDays_80 : decode cX1_leastDays 80 = .ok (.iinc 5 1, 3) := by decide +kernel
theorem dX1_leastDays_83 : decode cX1_leastDays 83 = .ok (.goto (-77), 3) := by decide +kernel
theorem dX1_leastDays_86 : decode cX1_leastDays 86 = .ok (.iload 4, 2) := by decide +kernel
theorem dX1_leastDays_88 : decode cX1_leastDays 88 = .ok (.ireturn, 1) := by decide +kernel
theorem dX2_init_0 : decode cX2_init 0 = .ok (.aload_n 0, 1) := by decide +kernel
theorem dX2_init_1 : decode cX2_init 1 = .ok (.invokespecial 3, 3) := by decide +kernel
theorem dX2_init_4 : decode cX2_init 4 = .ok (.aload_n 0, 1) := by decide +kernel
theorem dX2_init_5 : decode cX2_init 5 = .ok (.new 9, 3) := by decide +kernel
theorem dX2_init_8 : decode cX2_init 8 = .ok (.dup, 1) := by decide +kernel
theorem dX2_init_9 : decode cX2_init 9 = .ok (.invokespecial 11, 3) := by decide +kernel
theorem dX2_init_12 : decode cX2_init 12 = .ok (.putfield 12, 3) := by decide +kernel
theorem dX2_init_15 : decode cX2_init 15 = .ok (.aload_n 0, 1) := by decide +kernel
theorem dX2_init_16 : decode cX2_init 16 = .ok (.new 18, 3) := by decide +kernel
theorem dX2_init_19 : decode cX2_init 19 = .ok (.dup, 1) := by decide +kernel
theorem dX2_init_20 : decode cX2_init 20 = .ok (.invokespecial 20, 3) := by decide +kernel
theorem dX2_init_23 : decode cX2_init 23 = .ok (.putfield 21, 3) := by decide +kernel
theorem dX2_init_26 : decode cX2_init 26 = .ok (.aload_n 0, 1) := by decide +kernel
theorem dX2_init_27 : decode cX2_init 27 = .ok (.iconst 3, 1) := by decide +kernel
theorem dX2_init_28 : decode cX2_init 28 = .ok (.newarray .int, 2) := by decide +kernel
theorem dX2_init_30 : decode cX2_init 30 = .ok (.putfield 27, 3) := by decide +kernel
theorem dX2_init_33 : decode cX2_init 33 = .ok (.aload_n 0, 1) := by decide +kernel
theorem dX2_init_34 : decode cX2_init 34 = .ok (.iconst 3, 1) := by decide +kernel
theorem dX2_init_35 : decode cX2_init 35 = .ok (.putfield 31, 3) := by decide +kernel
theorem dX2_init_38 : decode cX2_init 38 = .ok (.aload_n 0, 1) := by decide +kernel
theorem dX2_init_39 : decode cX2_init 39 = .ok (.iconst 0, 1) := by decide +kernel
theorem dX2_init_40 : decode cX2_init 40 = .ok (.putfield 35, 3) := by decide +kernel
theorem dX2_init_43 : decode cX2_init 43 = .ok (.aload_n 0, 1) := by decide +kernel
theorem dX2_init_44 : decode cX2_init 44 = .ok (.iconst 0, 1) := by decide +kernel
theorem dX2_init_45 : decode cX2_init 45 = .ok (.putfield 38, 3) := by decide +kernel
theorem dX2_init_48 : decode cX2_init 48 = .ok (.return_, 1) := by decide +kernel
theorem dX2_read_0 : decode cX2_read 0 = .ok (.aload_n 0, 1) := by decide +kernel
theorem dX2_read_1 : decode cX2_read 1 = .ok (.getfield 12, 3) := by decide +kernel
theorem dX2_read_4 : decode cX2_read 4 = .ok (.invokevirtual 41, 3) := by decide +kernel
theorem dX2_read_7 : decode cX2_read 7 = .ok (.aload_n 0, 1) := by decide +kernel
theorem dX2_read_8 : decode cX2_read 8 = .ok (.getfield 21, 3) := by decide +kernel
theorem dX2_read_11 : decode cX2_read 11 = .ok (.aload_n 1, 1) := by decide +kernel
theorem dX2_read_12 : decode cX2_read 12 = .ok (.invokevirtual 44, 3) := by decide +kernel
theorem dX2_read_15 : decode cX2_read 15 = .ok (.aload_n 0, 1) := by decide +kernel
theorem dX2_read_16 : decode cX2_read 16 = .ok (.invokevirtual 48, 3) := by decide +kernel
theorem dX2_read_19 : decode cX2_read 19 = .ok (.istore_n 2, 1) := by decide +kernel
theorem dX2_read_20 : decode cX2_read 20 = .ok (.iconst 1, 1) := by decide +kernel
theorem dX2_read_21 : decode cX2_read 21 = .ok (.istore_n 3, 1) := by decide +kernel
theorem dX2_read_22 : decode cX2_read 22 = .ok (.iload_n 3, 1) := by decide +kernel
theorem dX2_read_23 : decode cX2_read 23 = .ok (.bipush 8, 2) := by decide +kernel
theorem dX2_read_25 : decode cX2_read 25 = .ok (.if_icmp .ge 30, 3) := by decide +kernel
theorem dX2_read_28 : decode cX2_read 28 = .ok (.iload_n 2, 1) := by decide +kernel
theorem dX2_read_29 : decode cX2_read 29 = .ok (.ifCond .eq 26, 3) := by decide +kernel
theorem dX2_read_32 : decode cX2_read 32 = .ok (.aload_n 0, 1) := by decide +kernel
theorem dX2_read_33 : decode cX2_read 33 = .ok (.getfield 21, 3) := by decide +kernel
theorem dX2_read_36 : decode cX2_read 36 = .ok (.bipush 21, 2) := by decide +kernel
theorem dX2_read_38 : decode cX2_read 38 = .ok (.invokevirtual 54, 3) := by decide +kernel
theorem dX2_read_41 : decode cX2_read 41 = .ok (.ifCond .eq 14, 3) := by decide +kernel
theorem dX2_read_44 : decode cX2_read 44 = .ok (.aload_n 0, 1) := by decide +kernel
theorem dX2_read_45 : decode cX2_read 45 = .ok (.invokevirtual 48, 3) := by decide +kernel
theorem dX2_read_48 : decode cX2_read 48 = .ok (.istore_n 2, 1) := by decide +kernel
theorem dX2_read_49 : decode cX2_read 49 = .ok (.iinc 3 1, 3) := by decide +kernel
theorem dX2_read_52 : decode cX2_read 52 = .ok (.goto (-30), 3) := by decide +kernel
theorem dX2_read_55 : decode cX2_read 55 = .ok (.iload_n 2, 1) := by decide +kernel
theorem dX2_read_56 : decode cX2_read 56 = .ok (.ifCond .eq 19, 3) := by decide +kernel
theorem dX2_read_59 : decode cX2_read 59 = .ok (.aload_n 0, 1) := by decide +kernel
theorem dX2_read_60 : decode cX2_read 60 = .ok (.getfield 21, 3) := by decide +kernel
theorem dX2_read_63 : decode cX2_read 63 = .ok (.bipush 22, 2) := by decide +kernel
theorem dX2_read_65 : decode cX2_read 65 = .ok (.invokevirtual 58, 3) := by decide +kernel
theorem dX2_read_68 : decode cX2_read 68 = .ok (.ifCond .eq 7, 3) := by decide +kernel
theorem dX2_read_71 : decode cX2_read 71 = .ok (.iconst 1, 1) := by decide +kernel
theorem dX2_read_72 : decode cX2_read 72 = .ok (.goto 4, 3) := by decide +kernel
theorem dX2_read_75 : decode cX2_read 75 = .ok (.iconst 0, 1) := by decide +kernel
theorem dX2_read_76 : decode cX2_read 76 = .ok (.ireturn, 1) := by decide +kernel
theorem dX2_stoppedAt_0 : decode cX2_stoppedAt 0 = .ok (.aload_n 0, 1) := by decide +kernel
theorem dX2_stoppedAt_1 : decode cX2_stoppedAt 1 = .ok (.getfield 21, 3) := by decide +kernel
theorem dX2_stoppedAt_4 : decode cX2_stoppedAt 4 = .ok (.invokevirtual 61, 3) := by decide +kernel
theorem dX2_stoppedAt_7 : decode cX2_stoppedAt 7 = .ok (.ireturn, 1) := by decide +kernel
theorem dX2_readSentence_0 : decode cX2_readSentence 0 = .ok (.aconst_null, 1) := by decide +kernel
theorem dX2_readSentence_1 : decode cX2_readSentence 1 = .ok (.astore_n 1, 1) := by decide +kernel
theorem dX2_readSentence_2 : decode cX2_readSentence 2 = .ok (.aload_n 0, 1) := by decide +kernel
theorem dX2_readSentence_3 : decode cX2_readSentence 3 = .ok (.getfield 21, 3) := by decide +kernel
theorem dX2_readSentence_6 : decode cX2_readSentence 6 = .ok (.bipush 12, 2) := by decide +kernel
theorem dX2_readSentence_8 : decode cX2_readSentence 8 = .ok (.invokevirtual 54, 3) := by decide +kernel
theorem dX2_readSentence_11 : decode cX2_readSentence 11 = .ok (.ifCond .eq 27, 3) := by decide +kernel
theorem dX2_readSentence_14 : decode cX2_readSentence 14 = .ok (.aload_n 0, 1) := by decide +kernel
theorem dX2_readSentence_15 : decode cX2_readSentence 15 = .ok (.iconst 0, 1) := by decide +kernel
theorem dX2_readSentence_16 : decode cX2_readSentence 16 = .ok (.invokevirtual 65, 3) := by decide +kernel
theorem dX2_readSentence_19 : decode cX2_readSentence 19 = .ok (.astore_n 1, 1) := by decide +kernel
theorem dX2_readSentence_20 : decode cX2_readSentence 20 = .ok (.aload_n 1, 1) := by decide +kernel
theorem dX2_readSentence_21 : decode cX2_readSentence 21 = .ok (.ifnull 15, 3) := by decide +kernel
theorem dX2_readSentence_24 : decode cX2_readSentence 24 = .ok (.aload_n 0, 1) := by decide +kernel
theorem dX2_readSentence_25 : decode cX2_readSentence 25 = .ok (.getfield 21, 3) := by decide +kernel
theorem dX2_readSentence_28 : decode cX2_readSentence 28 = .ok (.bipush 20, 2) := by decide +kernel
theorem dX2_readSentence_30 : decode cX2_readSentence 30 = .ok (.invokevirtual 54, 3) := by decide +kernel
theorem dX2_readSentence_33 : decode cX2_readSentence 33 = .ok (.ifCond .ne 5, 3) := by decide +kernel
theorem dX2_readSentence_36 : decode cX2_readSentence 36 = .ok (.iconst 0, 1) := by decide +kernel
theorem dX2_readSentence_37 : decode cX2_readSentence 37 = .ok (.ireturn, 1) := by decide +kernel
theorem dX2_readSentence_38 : decode cX2_readSentence 38 = .ok (.aload_n 0, 1) := by decide +kernel
theorem dX2_readSentence_39 : decode cX2_readSentence 39 = .ok (.getfield 21, 3) := by decide +kernel
theorem dX2_readSentence_42 : decode cX2_readSentence 42 = .ok (.bipush 6, 2) := by decide +kernel
theorem dX2_readSentence_44 : decode cX2_readSentence 44 = .ok (.invokevirtual 58, 3) := by decide +kernel
theorem dX2_readSentence_47 : decode cX2_readSentence 47 = .ok (.istore_n 2, 1) := by decide +kernel
theorem dX2_readSentence_48 : decode cX2_readSentence 48 = .ok (.iload_n 2, 1) := by decide +kernel
theorem dX2_readSentence_49 : decode cX2_readSentence 49 = .ok (.ifCond .eq 13, 3) := by decide +kernel
theorem dX2_readSentence_52 : decode cX2_readSentence 52 = .ok (.aload_n 0, 1) := by decide +kernel
theorem dX2_readSentence_53 : decode cX2_readSentence 53 = .ok (.invokevirtual 69, 3) := by decide +kernel
theorem dX2_readSentence_56 : decode cX2_readSentence 56 = .ok (.ifCond .eq 13, 3) := by decide +kernel
theorem dX2_readSentence_59 : decode cX2_readSentence 59 = .ok (.goto 12, 3) := by decide +kernel
theorem dX2_readSentence_62 : decode cX2_readSentence 62 = .ok (.aload_n 0, 1) := by decide +kernel
theorem dX2_readSentence_63 : decode cX2_readSentence 63 = .ok (.invokevirtual 72, 3) := by decide +kernel
theorem dX2_readSentence_66 : decode cX2_readSentence 66 = .ok (.ifCond .ne 5, 3) := by decide +kernel
theorem dX2_readSentence_69 : decode cX2_readSentence 69 = .ok (.iconst 0, 1) := by decide +kernel
theorem dX2_readSentence_70 : decode cX2_readSentence 70 = .ok (.ireturn, 1) := by decide +kernel
theorem dX2_readSentence_71 : decode cX2_readSentence 71 = .ok (.aconst_null, 1) := by decide +kernel
theorem dX2_readSentence_72 : decode cX2_readSentence 72 = .ok (.astore_n 3, 1) := by decide +kernel
theorem dX2_readSentence_73 : decode cX2_readSentence 73 = .ok (.aload_n 0, 1) := by decide +kernel
theorem dX2_readSentence_74 : decode cX2_readSentence 74 = .ok (.getfield 21, 3) := by decide +kernel
theorem dX2_readSentence_77 : decode cX2_readSentence 77 = .ok (.bipush 13, 2) := by decide +kernel
theorem dX2_readSentence_79 : decode cX2_readSentence 79 = .ok (.invokevirtual 54, 3) := by decide +kernel
theorem dX2_readSentence_82 : decode cX2_readSentence 82 = .ok (.ifCond .eq 15, 3) := by decide +kernel
theorem dX2_readSentence_85 : decode cX2_readSentence 85 = .ok (.aload_n 0, 1) := by decide +kernel
theorem dX2_readSentence_86 : decode cX2_readSentence 86 = .ok (.iconst 0, 1) := by decide +kernel
theorem dX2_readSentence_87 : decode cX2_readSentence 87 = .ok (.invokevirtual 65, 3) := by decide +kernel
theorem dX2_readSentence_90 : decode cX2_readSentence 90 = .ok (.astore_n 3, 1) := by decide +kernel
theorem dX2_readSentence_91 : decode cX2_readSentence 91 = .ok (.aload_n 3, 1) := by decide +kernel
theorem dX2_readSentence_92 : decode cX2_readSentence 92 = .ok (.ifnonnull 5, 3) := by decide +kernel
theorem dX2_readSentence_95 : decode cX2_readSentence 95 = .ok (.iconst 0, 1) := by decide +kernel
theorem dX2_readSentence_96 : decode cX2_readSentence 96 = .ok (.ireturn, 1) := by decide +kernel
theorem dX2_readSentence_97 : decode cX2_readSentence 97 = .ok (.iconst (-1), 1) := by decide +kernel
theorem dX2_readSentence_98 : decode cX2_readSentence 98 = .ok (.istore 4, 2) := by decide +kernel
theorem dX2_readSentence_100 : decode cX2_readSentence 100 = .ok (.aload_n 0, 1) := by decide +kernel
theorem dX2_readSentence_101 : decode cX2_readSentence 101 = .ok (.getfield 21, 3) := by decide +kernel
theorem dX2_readSentence_104 : decode cX2_readSentence 104 = .ok (.bipush 14, 2) := by decide +kernel
theorem dX2_readSentence_106 : decode cX2_readSentence 106 = .ok (.invokevirtual 54, 3) := by decide +kernel
theorem dX2_readSentence_109 : decode cX2_readSentence 109 = .ok (.ifCond .eq 24, 3) := by decide +kernel
theorem dX2_readSentence_112 : decode cX2_readSentence 112 = .ok (.aload_n 0, 1) := by decide +kernel
theorem dX2_readSentence_113 : decode cX2_readSentence 113 = .ok (.getfield 21, 3) := by decide +kernel
theorem dX2_readSentence_116 : decode cX2_readSentence 116 = .ok (.iconst 1, 1) := by decide +kernel
theorem dX2_readSentence_117 : decode cX2_readSentence 117 = .ok (.sipush 365, 3) := by decide +kernel
theorem dX2_readSentence_120 : decode cX2_readSentence 120 = .ok (.invokevirtual 75, 3) := by decide +kernel
theorem dX2_readSentence_123 : decode cX2_readSentence 123 = .ok (.istore 4, 2) := by decide +kernel
theorem dX2_readSentence_125 : decode cX2_readSentence 125 = .ok (.iload 4, 2) := by decide +kernel
theorem dX2_readSentence_127 : decode cX2_readSentence 127 = .ok (.iconst (-1), 1) := by decide +kernel
theorem dX2_readSentence_128 : decode cX2_readSentence 128 = .ok (.if_icmp .ne 5, 3) := by decide +kernel
theorem dX2_readSentence_131 : decode cX2_readSentence 131 = .ok (.iconst 0, 1) := by decide +kernel
theorem dX2_readSentence_132 : decode cX2_readSentence 132 = .ok (.ireturn, 1) := by decide +kernel
theorem dX2_readSentence_133 : decode cX2_readSentence 133 = .ok (.aload_n 0, 1) := by decide +kernel
theorem dX2_readSentence_134 : decode cX2_readSentence 134 = .ok (.getfield 12, 3) := by decide +kernel
theorem dX2_readSentence_137 : decode cX2_readSentence 137 = .ok (.new 25, 3) := by decide +kernel
theorem dX2_readSentence_140 : decode cX2_readSentence 140 = .ok (.dup, 1) := by decide +kernel
theorem dX2_readSentence_141 : decode cX2_readSentence 141 = .ok (.aload_n 0, 1) := by decide +kernel
theorem dX2_readSentence_142 : decode cX2_readSentence 142 = .ok (.getfield 31, 3) := by decide +kernel
theorem dX2_readSentence_145 : decode cX2_readSentence 145 = .ok (.aload_n 0, 1) := by decide +kernel
theorem dX2_readSentence_146 : decode cX2_readSentence 146 = .ok (.getfield 35, 3) := by decide +kernel
theorem dX2_readSentence_149 : decode cX2_readSentence 149 = .ok (.iload 4, 2) := by decide +kernel
theorem dX2_readSentence_151 : decode cX2_readSentence 151 = .ok (.iload_n 2, 1) := by decide +kernel
theorem dX2_readSentence_152 : decode cX2_readSentence 152 = .ok (.aload_n 0, 1) := by decide +kernel
theorem dX2_readSentence_153 : decode cX2_readSentence 153 = .ok (.invokevirtual 79, 3) := by decide +kernel
theorem dX2_readSentence_156 : decode cX2_readSentence 156 = .ok (.aload_n 1, 1) := by decide +kernel
theorem dX2_readSentence_157 : decode cX2_readSentence 157 = .ok (.aload_n 3, 1) := by decide +kernel
theorem dX2_readSentence_158 : decode cX2_readSentence 158 = .ok (.invokespecial 83, 3) := by decide +kernel
theorem dX2_readSentence_161 : decode cX2_readSentence 161 = .ok (.invokevirtual 86, 3) := by decide +kernel
theorem dX2_readSentence_164 : decode cX2_readSentence 164 = .ok (.iconst 1, 1) := by decide +kernel
theorem dX2_readSentence_165 : decode cX2_readSentence 165 = .ok (.ireturn, 1) := by decide +kernel
theorem dX2_readActive_0 : decode cX2_readActive 0 = .ok (.aload_n 0, 1) := by decide +kernel
theorem dX2_readActive_1 : decode cX2_readActive 1 = .ok (.invokevirtual 90, 3) := by decide +kernel
theorem dX2_readActive_4 : decode cX2_readActive 4 = .ok (.ifCond .eq 21, 3) := by decide +kernel
theorem dX2_readActive_7 : decode cX2_readActive 7 = .ok (.aload_n 0, 1) := by decide +kernel
theorem dX2_readActive_8 : decode cX2_readActive 8 = .ok (.invokevirtual 93, 3) := by decide +kernel
theorem dX2_readActive_11 : decode cX2_readActive 11 = .ok (.ifCond .eq 14, 3) := by decide +kernel
theorem dX2_readActive_14 : decode cX2_readActive 14 = .ok (.aload_n 0, 1) := by decide +kernel
theorem dX2_readActive_15 : decode cX2_readActive 15 = .ok (.invokevirtual 96, 3) := by decide +kernel
theorem dX2_readActive_18 : decode cX2_readActive 18 = .ok (.ifCond .eq 7, 3) := by decide +kernel
theorem dX2_readActive_21 : decode cX2_readActive 21 = .ok (.iconst 1, 1) := by decide +kernel
theorem dX2_readActive_22 : decode cX2_readActive 22 = .ok (.goto 4, 3) := by decide +kernel
theorem dX2_readActive_25 : decode cX2_readActive 25 = .ok (.iconst 0, 1) := by decide +kernel
theorem dX2_readActive_26 : decode cX2_readActive 26 = .ok (.ireturn, 1) := by decide +kernel
theorem dX2_readPassive_0 : decode cX2_readPassive 0 = .ok (.aload_n 0, 1) := by decide +kernel
theorem dX2_readPassive_1 : decode cX2_readPassive 1 = .ok (.invokevirtual 96, 3) := by decide +kernel
theorem dX2_readPassive_4 : decode cX2_readPassive 4 = .ok (.ifCond .eq 34, 3) := by decide +kernel
theorem dX2_readPassive_7 : decode cX2_readPassive 7 = .ok (.aload_n 0, 1) := by decide +kernel
theorem dX2_readPassive_8 : decode cX2_readPassive 8 = .ok (.invokevirtual 93, 3) := by decide +kernel
theorem dX2_readPassive_11 : decode cX2_readPassive 11 = .ok (.ifCond .eq 27, 3) := by decide +kernel
theorem dX2_readPassive_14 : decode cX2_readPassive 14 = .ok (.aload_n 0, 1) := by decide +kernel
theorem dX2_readPassive_15 : decode cX2_readPassive 15 = .ok (.getfield 21, 3) := by decide +kernel
theorem dX2_readPassive_18 : decode cX2_readPassive 18 = .ok (.bipush 9, 2) := by decide +kernel
theorem dX2_readPassive_20 : decode cX2_readPassive 20 = .ok (.invokevirtual 54, 3) := by decide +kernel
theorem dX2_readPassive_23 : decode cX2_readPassive 23 = .ok (.ifCond .eq 15, 3) := by decide +kernel
theorem dX2_readPassive_26 : decode cX2_readPassive 26 = .ok (.aload_n 0, 1) := by decide +kernel
theorem dX2_readPassive_27 : decode cX2_readPassive 27 = .ok (.getfield 21, 3) := by decide +kernel
theorem dX2_readPassive_30 : decode cX2_readPassive 30 = .ok (.bipush 10, 2) := by decide +kernel
theorem dX2_readPassive_32 : decode cX2_readPassive 32 = .ok (.invokevirtual 54, 3) := by decide +kernel
theorem dX2_readPassive_35 : decode cX2_readPassive 35 = .ok (.ifCond .ne 5, 3) := by decide +kernel
theorem dX2_readPassive_38 : decode cX2_readPassive 38 = .ok (.iconst 0, 1) := by decide +kernel
theorem dX2_readPassive_39 : decode cX2_readPassive 39 = .ok (.ireturn, 1) := by decide +kernel
theorem dX2_readPassive_40 : decode cX2_readPassive 40 = .ok (.aload_n 0, 1) := by decide +kernel
theorem dX2_readPassive_41 : decode cX2_readPassive 41 = .ok (.iconst 3, 1) := by decide +kernel
theorem dX2_readPassive_42 : decode cX2_readPassive 42 = .ok (.putfield 31, 3) := by decide +kernel
theorem dX2_readPassive_45 : decode cX2_readPassive 45 = .ok (.aload_n 0, 1) := by decide +kernel
theorem dX2_readPassive_46 : decode cX2_readPassive 46 = .ok (.getfield 21, 3) := by decide +kernel
theorem dX2_readPassive_49 : decode cX2_readPassive 49 = .ok (.bipush 11, 2) := by decide +kernel
theorem dX2_readPassive_51 : decode cX2_readPassive 51 = .ok (.invokevirtual 54, 3) := by decide +kernel
theorem dX2_readPassive_54 : decode cX2_readPassive 54 = .ok (.ifCond .eq 10, 3) := by decide +kernel
theorem dX2_readPassive_57 : decode cX2_readPassive 57 = .ok (.aload_n 0, 1) := by decide +kernel
theorem dX2_readPassive_58 : decode cX2_readPassive 58 = .ok (.invokevirtual 90, 3) := by decide +kernel
theorem dX2_readPassive_61 : decode cX2_readPassive 61 = .ok (.ifCond .eq 7, 3) := by decide +kernel
theorem dX2_readPassive_64 : decode cX2_readPassive 64 = .ok (.iconst 1, 1) := by decide +kernel
theorem dX2_readPassive_65 : decode cX2_readPassive 65 = .ok (.goto 4, 3) := by decide +kernel
theorem dX2_readPassive_68 : decode cX2_readPassive 68 = .ok (.iconst 0, 1) := by decide +kernel
theorem dX2_readPassive_69 : decode cX2_readPassive 69 = .ok (.ireturn, 1) := by decide +kernel
theorem dX2_readWho_0 : decode cX2_readWho 0 = .ok (.aload_n 0, 1) := by decide +kernel
theorem dX2_readWho_1 : decode cX2_readWho 1 = .ok (.getfield 21, 3) := by decide +kernel
theorem dX2_readWho_4 : decode cX2_readWho 4 = .ok (.iconst 0, 1) := by decide +kernel
theorem dX2_readWho_5 : decode cX2_readWho 5 = .ok (.invokevirtual 54, 3) := by decide +kernel
theorem dX2_readWho_8 : decode cX2_readWho 8 = .ok (.ifCond .eq 11, 3) := by decide +kernel
theorem dX2_readWho_11 : decode cX2_readWho 11 = .ok (.aload_n 0, 1) := by decide +kernel
theorem dX2_readWho_12 : decode cX2_readWho 12 = .ok (.iconst 0, 1) := by decide +kernel
theorem dX2_readWho_13 : decode cX2_readWho 13 = .ok (.putfield 31, 3) := by decide +kernel
theorem dX2_readWho_16 : decode cX2_readWho 16 = .ok (.goto 36, 3) := by decide +kernel
theorem dX2_readWho_19 : decode cX2_readWho 19 = .ok (.aload_n 0, 1) := by decide +kernel
theorem dX2_readWho_20 : decode cX2_readWho 20 = .ok (.getfield 21, 3) := by decide +kernel
theorem dX2_readWho_23 : decode cX2_readWho 23 = .ok (.iconst 1, 1) := by decide +kernel
theorem dX2_readWho_24 : decode cX2_readWho 24 = .ok (.invokevirtual 54, 3) := by decide +kernel
theorem dX2_readWho_27 : decode cX2_readWho 27 = .ok (.ifCond .eq 11, 3) := by decide +kernel
theorem dX2_readWho_30 : decode cX2_readWho 30 = .ok (.aload_n 0, 1) := by decide +kernel
theorem dX2_readWho_31 : decode cX2_readWho 31 = .ok (.iconst 1, 1) := by decide +kernel
theorem dX2_readWho_32 : decode cX2_readWho 32 = .ok (.putfield 31, 3) := by decide +kernel
theorem dX2_readWho_35 : decode cX2_readWho 35 = .ok (.goto 17, 3) := by decide +kernel
theorem dX2_readWho_38 : decode cX2_readWho 38 = .ok (.aload_n 0, 1) := by decide +kernel
theorem dX2_readWho_39 : decode cX2_readWho 39 = .ok (.iconst 2, 1) := by decide +kernel
theorem dX2_readWho_40 : decode cX2_readWho 40 = .ok (.putfield 31, 3) := by decide +kernel
theorem dX2_readWho_43 : decode cX2_readWho 43 = .ok (.aload_n 0, 1) := by decide +kernel
theorem dX2_readWho_44 : decode cX2_readWho 44 = .ok (.getfield 21, 3) := by decide +kernel
theorem dX2_readWho_47 : decode cX2_readWho 47 = .ok (.iconst 2, 1) := by decide +kernel
theorem dX2_readWho_48 : decode cX2_readWho 48 = .ok (.invokevirtual 54, 3) := by decide +kernel
theorem dX2_readWho_51 : decode cX2_readWho 51 = .ok (.ireturn, 1) := by decide +kernel
theorem dX2_readWho_52 : decode cX2_readWho 52 = .ok (.iconst 1, 1) := by decide +kernel
theorem dX2_readWho_53 : decode cX2_readWho 53 = .ok (.ireturn, 1) := by decide +kernel
theorem dX2_readMode_0 : decode cX2_readMode 0 = .ok (.aload_n 0, 1) := by decide +kernel
theorem dX2_readMode_1 : decode cX2_readMode 1 = .ok (.getfield 21, 3) := by decide +kernel
theorem dX2_readMode_4 : decode cX2_readMode 4 = .ok (.iconst 5, 1) := by decide +kernel
theorem dX2_readMode_5 : decode cX2_readMode 5 = .ok (.invokevirtual 54, 3) := by decide +kernel
theorem dX2_readMode_8 : decode cX2_readMode 8 = .ok (.ifCond .eq 10, 3) := by decide +kernel
theorem dX2_readMode_11 : decode cX2_readMode 11 = .ok (.aload_n 0, 1) := by decide +kernel
theorem dX2_readMode_12 : decode cX2_readMode 12 = .ok (.iconst 2, 1) := by decide +kernel
theorem dX2_readMode_13 : decode cX2_readMode 13 = .ok (.putfield 35, 3) := by decide +kernel
theorem dX2_readMode_16 : decode cX2_readMode 16 = .ok (.iconst 1, 1) := by decide +kernel
theorem dX2_readMode_17 : decode cX2_readMode 17 = .ok (.ireturn, 1) := by decide +kernel
theorem dX2_readMode_18 : decode cX2_readMode 18 = .ok (.aload_n 0, 1) := by decide +kernel
theorem dX2_readMode_19 : decode cX2_readMode 19 = .ok (.getfield 21, 3) := by decide +kernel
theorem dX2_readMode_22 : decode cX2_readMode 22 = .ok (.iconst 3, 1) := by decide +kernel
theorem dX2_readMode_23 : decode cX2_readMode 23 = .ok (.invokevirtual 54, 3) := by decide +kernel
theorem dX2_readMode_26 : decode cX2_readMode 26 = .ok (.ifCond .ne 5, 3) := by decide +kernel
theorem dX2_readMode_29 : decode cX2_readMode 29 = .ok (.iconst 0, 1) := by decide +kernel
theorem dX2_readMode_30 : decode cX2_readMode 30 = .ok (.ireturn, 1) := by decide +kernel
theorem dX2_readMode_31 : decode cX2_readMode 31 = .ok (.aload_n 0, 1) := by decide +kernel
theorem dX2_readMode_32 : decode cX2_readMode 32 = .ok (.aload_n 0, 1) := by decide +kernel
theorem dX2_readMode_33 : decode cX2_readMode 33 = .ok (.getfield 21, 3) := by decide +kernel
theorem dX2_readMode_36 : decode cX2_readMode 36 = .ok (.iconst 4, 1) := by decide +kernel
theorem dX2_readMode_37 : decode cX2_readMode 37 = .ok (.invokevirtual 54, 3) := by decide +kernel
theorem dX2_readMode_40 : decode cX2_readMode 40 = .ok (.ifCond .eq 7, 3) := by decide +kernel
theorem dX2_readMode_43 : decode cX2_readMode 43 = .ok (.iconst 1, 1) := by decide +kernel
theorem dX2_readMode_44 : decode cX2_readMode 44 = .ok (.goto 4, 3) := by decide +kernel
theorem dX2_readMode_47 : decode cX2_readMode 47 = .ok (.iconst 0, 1) := by decide +kernel
theorem dX2_readMode_48 : decode cX2_readMode 48 = .ok (.putfield 35, 3) := by decide +kernel
theorem dX2_readMode_51 : decode cX2_readMode 51 = .ok (.iconst 1, 1) := by decide +kernel
theorem dX2_readMode_52 : decode cX2_readMode 52 = .ok (.ireturn, 1) := by decide +kernel
theorem dX2_readActs_0 : decode cX2_readActs 0 = .ok (.aload_n 0, 1) := by decide +kernel
theorem dX2_readActs_1 : decode cX2_readActs 1 = .ok (.iconst 0, 1) := by decide +kernel
theorem dX2_readActs_2 : decode cX2_readActs 2 = .ok (.putfield 38, 3) := by decide +kernel
theorem dX2_readActs_5 : decode cX2_readActs 5 = .ok (.aload_n 0, 1) := by decide +kernel
theorem dX2_readActs_6 : decode cX2_readActs 6 = .ok (.invokevirtual 99, 3) := by decide +kernel
theorem dX2_readActs_9 : decode cX2_readActs 9 = .ok (.istore_n 1, 1) := by decide +kernel
theorem dX2_readActs_10 : decode cX2_readActs 10 = .ok (.iconst 1, 1) := by decide +kernel
theorem dX2_readActs_11 : decode cX2_readActs 11 = .ok (.istore_n 2, 1) := by decide +kernel
theorem dX2_readActs_12 : decode cX2_readActs 12 = .ok (.iload_n 2, 1) := by decide +kernel
theorem dX2_readActs_13 : decode cX2_readActs 13 = .ok (.iconst 3, 1) := by decide +kernel
theorem dX2_readActs_14 : decode cX2_readActs 14 = .ok (.if_icmp .ge 30, 3) := by decide +kernel
theorem dX2_readActs_17 : decode cX2_readActs 17 = .ok (.iload_n 1, 1) := by decide +kernel
theorem dX2_readActs_18 : decode cX2_readActs 18 = .ok (.ifCond .eq 26, 3) := by decide +kernel
theorem dX2_readActs_21 : decode cX2_readActs 21 = .ok (.aload_n 0, 1) := by decide +kernel
theorem dX2_readActs_22 : decode cX2_readActs 22 = .ok (.getfield 21, 3) := by decide +kernel
theorem dX2_readActs_25 : decode cX2_readActs 25 = .ok (.bipush 7, 2) := by decide +kernel
theorem dX2_readActs_27 : decode cX2_readActs 27 = .ok (.invokevirtual 54, 3) := by decide +kernel
theorem dX2_readActs_30 : decode cX2_readActs 30 = .ok (.ifCond .eq 14, 3) := by decide +kernel
theorem dX2_readActs_33 : decode cX2_readActs 33 = .ok (.aload_n 0, 1) := by decide +kernel
theorem dX2_readActs_34 : decode cX2_readActs 34 = .ok (.invokevirtual 99, 3) := by decide +kernel
theorem dX2_readActs_37 : decode cX2_readActs 37 = .ok (.istore_n 1, 1) := by decide +kernel
theorem dX2_readActs_38 : decode cX2_readActs 38 = .ok (.iinc 2 1, 3) := by decide +kernel
theorem dX2_readActs_41 : decode cX2_readActs 41 = .ok (.goto (-29), 3) := by decide +kernel
theorem dX2_readActs_44 : decode cX2_readActs 44 = .ok (.iload_n 1, 1) := by decide +kernel
theorem dX2_readActs_45 : decode cX2_readActs 45 = .ok (.ireturn, 1) := by decide +kernel
theorem dX2_readAct_0 : decode cX2_readAct 0 = .ok (.aload_n 0, 1) := by decide +kernel
theorem dX2_readAct_1 : decode cX2_readAct 1 = .ok (.getfield 21, 3) := by decide +kernel
theorem dX2_readAct_4 : decode cX2_readAct 4 = .ok (.bipush 6, 2) := by decide +kernel
theorem dX2_readAct_6 : decode cX2_readAct 6 = .ok (.invokevirtual 54, 3) := by decide +kernel
theorem dX2_readAct_9 : decode cX2_readAct 9 = .ok (.ifCond .eq 17, 3) := by decide +kernel
theorem dX2_readAct_12 : decode cX2_readAct 12 = .ok (.aload_n 0, 1) := by decide +kernel
theorem dX2_readAct_13 : decode cX2_readAct 13 = .ok (.aload_n 0, 1) := by decide +kernel
theorem dX2_readAct_14 : decode cX2_readAct 14 = .ok (.getfield 21, 3) := by decide +kernel
theorem dX2_readAct_17 : decode cX2_readAct 17 = .ok (.invokevirtual 102, 3) := by decide +kernel
theorem dX2_readAct_20 : decode cX2_readAct 20 = .ok (.invokevirtual 105, 3) := by decide +kernel
theorem dX2_readAct_23 : decode cX2_readAct 23 = .ok (.ifCond .eq 5, 3) := by decide +kernel
theorem dX2_readAct_26 : decode cX2_readAct 26 = .ok (.iconst 0, 1) := by decide +kernel
theorem dX2_readAct_27 : decode cX2_readAct 27 = .ok (.ireturn, 1) := by decide +kernel
theorem dX2_readAct_28 : decode cX2_readAct 28 = .ok (.aload_n 0, 1) := by decide +kernel
theorem dX2_readAct_29 : decode cX2_readAct 29 = .ok (.getfield 21, 3) := by decide +kernel
theorem dX2_readAct_32 : decode cX2_readAct 32 = .ok (.iconst 0, 1) := by decide +kernel
theorem dX2_readAct_33 : decode cX2_readAct 33 = .ok (.bipush 9, 2) := by decide +kernel
theorem dX2_readAct_35 : decode cX2_readAct 35 = .ok (.invokevirtual 75, 3) := by decide +kernel
theorem dX2_readAct_38 : decode cX2_readAct 38 = .ok (.istore_n 1, 1) := by decide +kernel
theorem dX2_readAct_39 : decode cX2_readAct 39 = .ok (.iload_n 1, 1) := by decide +kernel
theorem dX2_readAct_40 : decode cX2_readAct 40 = .ok (.iconst (-1), 1) := by decide +kernel
theorem dX2_readAct_41 : decode cX2_readAct 41 = .ok (.if_icmp .eq 15, 3) := by decide +kernel
theorem dX2_readAct_44 : decode cX2_readAct 44 = .ok (.aload_n 0, 1) := by decide +kernel
theorem dX2_readAct_45 : decode cX2_readAct 45 = .ok (.getfield 38, 3) := by decide +kernel
theorem dX2_readAct_48 : decode cX2_readAct 48 = .ok (.aload_n 0, 1) := by decide +kernel
theorem dX2_readAct_49 : decode cX2_readAct 49 = .ok (.getfield 27, 3) := by decide +kernel
theorem dX2_readAct_52 : decode cX2_readAct 52 = .ok (.arraylength, 1) := by decide +kernel
theorem dX2_readAct_53 : decode cX2_readAct 53 = .ok (.if_icmp .lt 5, 3) := by decide +kernel
theorem dX2_readAct_56 : decode cX2_readAct 56 = .ok (.iconst 0, 1) := by decide +kernel
theorem dX2_readAct_57 : decode cX2_readAct 57 = .ok (.ireturn, 1) := by decide +kernel
theorem dX2_readAct_58 : decode cX2_readAct 58 = .ok (.aload_n 0, 1) := by decide +kernel
theorem dX2_readAct_59 : decode cX2_readAct 59 = .ok (.getfield 27, 3) := by decide +kernel
theorem dX2_readAct_62 : decode cX2_readAct 62 = .ok (.aload_n 0, 1) := by decide +kernel
theorem dX2_readAct_63 : decode cX2_readAct 63 = .ok (.getfield 38, 3) := by decide +kernel
theorem dX2_readAct_66 : decode cX2_readAct 66 = .ok (.iload_n 1, 1) := by decide +kernel
theorem dX2_readAct_67 : decode cX2_readAct 67 = .ok (.iastore, 1) := by decide +kernel
theorem dX2_readAct_68 : decode cX2_readAct 68 = .ok (.aload_n 0, 1) := by decide +kernel
theorem dX2_readAct_69 : decode cX2_readAct 69 = .ok (.dup, 1) := by decide +kernel
theorem dX2_readAct_70 : decode cX2_readAct 70 = .ok (.getfield 38, 3) := by decide +kernel
theorem dX2_readAct_73 : decode cX2_readAct 73 = .ok (.iconst 1, 1) := by decide +kernel
theorem dX2_readAct_74 : decode cX2_readAct 74 = .ok (.iadd, 1) := by decide +kernel
theorem dX2_readAct_75 : decode cX2_readAct 75 = .ok (.putfield 38, 3) := by decide +kernel
theorem dX2_readAct_78 : decode cX2_readAct 78 = .ok (.iconst 1, 1) := by decide +kernel
theorem dX2_readAct_79 : decode cX2_readAct 79 = .ok (.ireturn, 1) := by decide +kernel
theorem dX2_isTold_0 : decode cX2_isTold 0 = .ok (.iconst 0, 1) := by decide +kernel
theorem dX2_isTold_1 : decode cX2_isTold 1 = .ok (.istore_n 2, 1) := by decide +kernel
theorem dX2_isTold_2 : decode cX2_isTold 2 = .ok (.iload_n 2, 1) := by decide +kernel
theorem dX2_isTold_3 : decode cX2_isTold 3 = .ok (.aload_n 0, 1) := by decide +kernel
theorem dX2_isTold_4 : decode cX2_isTold 4 = .ok (.getfield 38, 3) := by decide +kernel
theorem dX2_isTold_7 : decode cX2_isTold 7 = .ok (.if_icmp .ge 30, 3) := by decide +kernel
theorem dX2_isTold_10 : decode cX2_isTold 10 = .ok (.iload_n 2, 1) := by decide +kernel
theorem dX2_isTold_11 : decode cX2_isTold 11 = .ok (.aload_n 0, 1) := by decide +kernel
theorem dX2_isTold_12 : decode cX2_isTold 12 = .ok (.getfield 27, 3) := by decide +kernel
theorem dX2_isTold_15 : decode cX2_isTold 15 = .ok (.arraylength, 1) := by decide +kernel
theorem dX2_isTold_16 : decode cX2_isTold 16 = .ok (.if_icmp .ge 21, 3) := by decide +kernel
theorem dX2_isTold_19 : decode cX2_isTold 19 = .ok (.aload_n 0, 1) := by decide +kernel
theorem dX2_isTold_20 : decode cX2_isTold 20 = .ok (.getfield 27, 3) := by decide +kernel
theorem dX2_isTold_23 : decode cX2_isTold 23 = .ok (.iload_n 2, 1) := by decide +kernel
theorem dX2_isTold_24 : decode cX2_isTold 24 = .ok (.iaload, 1) := by decide +kernel
theorem dX2_isTold_25 : decode cX2_isTold 25 = .ok (.iload_n 1, 1) := by decide +kernel
theorem dX2_isTold_26 : decode cX2_isTold 26 = .ok (.if_icmp .ne 5, 3) := by decide +kernel
theorem dX2_isTold_29 : decode cX2_isTold 29 = .ok (.iconst 1, 1) := by decide +kernel
theorem dX2_isTold_30 : decode cX2_isTold 30 = .ok (.ireturn, 1) := by decide +kernel
theorem dX2_isTold_31 : decode cX2_isTold 31 = .ok (.iinc 2 1, 3) := by decide +kernel
theorem dX2_isTold_34 : decode cX2_isTold 34 = .ok (.goto (-32), 3) := by decide +kernel
theorem dX2_isTold_37 : decode cX2_isTold 37 = .ok (.iconst 0, 1) := by decide +kernel
theorem dX2_isTold_38 : decode cX2_isTold 38 = .ok (.ireturn, 1) := by decide +kernel
theorem dX2_actsTold_0 : decode cX2_actsTold 0 = .ok (.iconst 0, 1) := by decide +kernel
theorem dX2_actsTold_1 : decode cX2_actsTold 1 = .ok (.aload_n 0, 1) := by decide +kernel
theorem dX2_actsTold_2 : decode cX2_actsTold 2 = .ok (.getfield 38, 3) := by decide +kernel
theorem dX2_actsTold_5 : decode cX2_actsTold 5 = .ok (.aload_n 0, 1) := by decide +kernel
theorem dX2_actsTold_6 : decode cX2_actsTold 6 = .ok (.getfield 27, 3) := by decide +kernel
theorem dX2_actsTold_9 : decode cX2_actsTold 9 = .ok (.arraylength, 1) := by decide +kernel
theorem dX2_actsTold_10 : decode cX2_actsTold 10 = .ok (.invokestatic 108, 3) := by decide +kernel
theorem dX2_actsTold_13 : decode cX2_actsTold 13 = .ok (.invokestatic 113, 3) := by decide +kernel
theorem dX2_actsTold_16 : decode cX2_actsTold 16 = .ok (.newarray .int, 2) := by decide +kernel
theorem dX2_actsTold_18 : decode cX2_actsTold 18 = .ok (.astore_n 1, 1) := by decide +kernel
theorem dX2_actsTold_19 : decode cX2_actsTold 19 = .ok (.aload_n 0, 1) := by decide +kernel
theorem dX2_actsTold_20 : decode cX2_actsTold 20 = .ok (.getfield 27, 3) := by decide +kernel
theorem dX2_actsTold_23 : decode cX2_actsTold 23 = .ok (.iconst 0, 1) := by decide +kernel
theorem dX2_actsTold_24 : decode cX2_actsTold 24 = .ok (.aload_n 1, 1) := by decide +kernel
theorem dX2_actsTold_25 : decode cX2_actsTold 25 = .ok (.iconst 0, 1) := by decide +kernel
theorem dX2_actsTold_26 : decode cX2_actsTold 26 = .ok (.aload_n 1, 1) := by decide +kernel
theorem dX2_actsTold_27 : decode cX2_actsTold 27 = .ok (.arraylength, 1) := by decide +kernel
theorem dX2_actsTold_28 : decode cX2_actsTold 28 = .ok (.invokestatic 116, 3) := by decide +kernel
theorem dX2_actsTold_31 : decode cX2_actsTold 31 = .ok (.aload_n 1, 1) := by decide +kernel
theorem dX2_actsTold_32 : decode cX2_actsTold 32 = .ok (.areturn, 1) := by decide +kernel
theorem dX2_readCond_0 : decode cX2_readCond 0 = .ok (.aload_n 0, 1) := by decide +kernel
theorem dX2_readCond_1 : decode cX2_readCond 1 = .ok (.iload_n 1, 1) := by decide +kernel
theorem dX2_readCond_2 : decode cX2_readCond 2 = .ok (.invokevirtual 122, 3) := by decide +kernel
theorem dX2_readCond_5 : decode cX2_readCond 5 = .ok (.astore_n 2, 1) := by decide +kernel
theorem dX2_readCond_6 : decode cX2_readCond 6 = .ok (.iconst 0, 1) := by decide +kernel
theorem dX2_readCond_7 : decode cX2_readCond 7 = .ok (.istore_n 3, 1) := by decide +kernel
theorem dX2_readCond_8 : decode cX2_readCond 8 = .ok (.iload_n 3, 1) := by decide +kernel
theorem dX2_readCond_9 : decode cX2_readCond 9 = .ok (.sipush 400, 3) := by decide +kernel
theorem dX2_readCond_12 : decode cX2_readCond 12 = .ok (.if_icmp .ge 36, 3) := by decide +kernel
theorem dX2_readCond_15 : decode cX2_readCond 15 = .ok (.aload_n 2, 1) := by decide +kernel
theorem dX2_readCond_16 : decode cX2_readCond 16 = .ok (.ifnull 32, 3) := by decide +kernel
theorem dX2_readCond_19 : decode cX2_readCond 19 = .ok (.aload_n 0, 1) := by decide +kernel
theorem dX2_readCond_20 : decode cX2_readCond 20 = .ok (.getfield 21, 3) := by decide +kernel
theorem dX2_readCond_23 : decode cX2_readCond 23 = .ok (.bipush 8, 2) := by decide +kernel
theorem dX2_readCond_25 : decode cX2_readCond 25 = .ok (.invokevirtual 54, 3) := by decide +kernel
theorem dX2_readCond_28 : decode cX2_readCond 28 = .ok (.ifCond .eq 20, 3) := by decide +kernel
theorem dX2_readCond_31 : decode cX2_readCond 31 = .ok (.iconst 0, 1) := by decide +kernel
theorem dX2_readCond_32 : decode cX2_readCond 32 = .ok (.aload_n 2, 1) := by decide +kernel
theorem dX2_readCond_33 : decode cX2_readCond 33 = .ok (.aload_n 0, 1) := by decide +kernel
theorem dX2_readCond_34 : decode cX2_readCond 34 = .ok (.iload_n 1, 1) := by decide +kernel
theorem dX2_readCond_35 : decode cX2_readCond 35 = .ok (.invokevirtual 122, 3) := by decide +kernel
theorem dX2_readCond_38 : decode cX2_readCond 38 = .ok (.invokestatic 129, 3) := by decide +kernel
theorem dX2_readCond_41 : decode cX2_readCond 41 = .ok (.astore_n 2, 1) := by decide +kernel
theorem dX2_readCond_42 : decode cX2_readCond 42 = .ok (.iinc 3 1, 3) := by decide +kernel
theorem dX2_readCond_45 : decode cX2_readCond 45 = .ok (.goto (-37), 3) := by decide +kernel
theorem dX2_readCond_48 : decode cX2_readCond 48 = .ok (.aload_n 2, 1) := by decide +kernel
theorem dX2_readCond_49 : decode cX2_readCond 49 = .ok (.areturn, 1) := by decide +kernel
theorem dX2_readAll_0 : decode cX2_readAll 0 = .ok (.aload_n 0, 1) := by decide +kernel
theorem dX2_readAll_1 : decode cX2_readAll 1 = .ok (.iload_n 1, 1) := by decide +kernel
theorem dX2_readAll_2 : decode cX2_readAll 2 = .ok (.invokevirtual 133, 3) := by decide +kernel
theorem dX2_readAll_5 : decode cX2_readAll 5 = .ok (.astore_n 2, 1) := by decide +kernel
theorem dX2_readAll_6 : decode cX2_readAll 6 = .ok (.iconst 0, 1) := by decide +kernel
theorem dX2_readAll_7 : decode cX2_readAll 7 = .ok (.istore_n 3, 1) := by decide +kernel
theorem dX2_readAll_8 : decode cX2_readAll 8 = .ok (.iload_n 3, 1) := by decide +kernel
theorem dX2_readAll_9 : decode cX2_readAll 9 = .ok (.sipush 400, 3) := by decide +kernel
theorem dX2_readAll_12 : decode cX2_readAll 12 = .ok (.if_icmp .ge 36, 3) := by decide +kernel
theorem dX2_readAll_15 : decode cX2_readAll 15 = .ok (.aload_n 2, 1) := by decide +kernel
theorem dX2_readAll_16 : decode cX2_readAll 16 = .ok (.ifnull 32, 3) := by decide +kernel
theorem dX2_readAll_19 : decode cX2_readAll 19 = .ok (.aload_n 0, 1) := by decide +kernel
theorem dX2_readAll_20 : decode cX2_readAll 20 = .ok (.getfield 21, 3) := by decide +kernel
theorem dX2_readAll_23 : decode cX2_readAll 23 = .ok (.bipush 7, 2) := by decide +kernel
theorem dX2_readAll_25 : decode cX2_readAll 25 = .ok (.invokevirtual 54, 3) := by decide +kernel
theorem dX2_readAll_28 : decode cX2_readAll 28 = .ok (.ifCond .eq 20, 3) := by decide +kernel
theorem dX2_readAll_31 : decode cX2_readAll 31 = .ok (.iconst 1, 1) := by decide +kernel
theorem dX2_readAll_32 : decode cX2_readAll 32 = .ok (.aload_n 2, 1) := by decide +kernel
theorem dX2_readAll_33 : decode cX2_readAll 33 = .ok (.aload_n 0, 1) := by decide +kernel
theorem dX2_readAll_34 : decode cX2_readAll 34 = .ok (.iload_n 1, 1) := by decide +kernel
theorem dX2_readAll_35 : decode cX2_readAll 35 = .ok (.invokevirtual 133, 3) := by decide +kernel
theorem dX2_readAll_38 : decode cX2_readAll 38 = .ok (.invokestatic 129, 3) := by decide +kernel
theorem dX2_readAll_41 : decode cX2_readAll 41 = .ok (.astore_n 2, 1) := by decide +kernel
theorem dX2_readAll_42 : decode cX2_readAll 42 = .ok (.iinc 3 1, 3) := by decide +kernel
theorem dX2_readAll_45 : decode cX2_readAll 45 = .ok (.goto (-37), 3) := by decide +kernel
theorem dX2_readAll_48 : decode cX2_readAll 48 = .ok (.aload_n 2, 1) := by decide +kernel
theorem dX2_readAll_49 : decode cX2_readAll 49 = .ok (.areturn, 1) := by decide +kernel
theorem dX2_readItem_0 : decode cX2_readItem 0 = .ok (.aload_n 0, 1) := by decide +kernel
theorem dX2_readItem_1 : decode cX2_readItem 1 = .ok (.getfield 21, 3) := by decide +kernel
theorem dX2_readItem_4 : decode cX2_readItem 4 = .ok (.bipush 15, 2) := by decide +kernel
theorem dX2_readItem_6 : decode cX2_readItem 6 = .ok (.invokevirtual 54, 3) := by decide +kernel
theorem dX2_readItem_9 : decode cX2_readItem 9 = .ok (.ifCond .eq 16, 3) := by decide +kernel
theorem dX2_readItem_12 : decode cX2_readItem 12 = .ok (.aload_n 0, 1) := by decide +kernel
theorem dX2_readItem_13 : decode cX2_readItem 13 = .ok (.getfield 21, 3) := by decide +kernel
theorem dX2_readItem_16 : decode cX2_readItem 16 = .ok (.iconst 0, 1) := by decide +kernel
theorem dX2_readItem_17 : decode cX2_readItem 17 = .ok (.iconst 5, 1) := by decide +kernel
theorem dX2_readItem_18 : decode cX2_readItem 18 = .ok (.invokevirtual 75, 3) := by decide +kernel
theorem dX2_readItem_21 : decode cX2_readItem 21 = .ok (.invokestatic 136, 3) := by decide +kernel
theorem dX2_readItem_24 : decode cX2_readItem 24 = .ok (.areturn, 1) := by decide +kernel
theorem dX2_readItem_25 : decode cX2_readItem 25 = .ok (.iload_n 1, 1) := by decide +kernel
theorem dX2_readItem_26 : decode cX2_readItem 26 = .ok (.bipush 12, 2) := by decide +kernel
theorem dX2_readItem_28 : decode cX2_readItem 28 = .ok (.if_icmp .lt 5, 3) := by decide +kernel
theorem dX2_readItem_31 : decode cX2_readItem 31 = .ok (.aconst_null, 1) := by decide +kernel
theorem dX2_readItem_32 : decode cX2_readItem 32 = .ok (.areturn, 1) := by decide +kernel
theorem dX2_readItem_33 : decode cX2_readItem 33 = .ok (.aload_n 0, 1) := by decide +kernel
theorem dX2_readItem_34 : decode cX2_readItem 34 = .ok (.getfield 21, 3) := by decide +kernel
theorem dX2_readItem_37 : decode cX2_readItem 37 = .ok (.iconst 4, 1) := by decide +kernel
theorem dX2_readItem_38 : decode cX2_readItem 38 = .ok (.invokevirtual 54, 3) := by decide +kernel
theorem dX2_readItem_41 : decode cX2_readItem 41 = .ok (.ifCond .eq 14, 3) := by decide +kernel
theorem dX2_readItem_44 : decode cX2_readItem 44 = .ok (.aload_n 0, 1) := by decide +kernel
theorem dX2_readItem_45 : decode cX2_readItem 45 = .ok (.iload_n 1, 1) := by decide +kernel
theorem dX2_readItem_46 : decode cX2_readItem 46 = .ok (.iconst 1, 1) := by decide +kernel
theorem dX2_readItem_47 : decode cX2_readItem 47 = .ok (.iadd, 1) := by decide +kernel
theorem dX2_readItem_48 : decode cX2_readItem 48 = .ok (.invokevirtual 133, 3) := by decide +kernel
theorem dX2_readItem_51 : decode cX2_readItem 51 = .ok (.invokestatic 139, 3) := by decide +kernel
theorem dX2_readItem_54 : decode cX2_readItem 54 = .ok (.areturn, 1) := by decide +kernel
theorem dX2_readItem_55 : decode cX2_readItem 55 = .ok (.aload_n 0, 1) := by decide +kernel
theorem dX2_readItem_56 : decode cX2_readItem 56 = .ok (.getfield 21, 3) := by decide +kernel
theorem dX2_readItem_59 : decode cX2_readItem 59 = .ok (.bipush 18, 2) := by decide +kernel
theorem dX2_readItem_61 : decode cX2_readItem 61 = .ok (.invokevirtual 54, 3) := by decide +kernel
theorem dX2_readItem_64 : decode cX2_readItem 64 = .ok (.ifCond .ne 5, 3) := by decide +kernel
theorem dX2_readItem_67 : decode cX2_readItem 67 = .ok (.aconst_null, 1) := by decide +kernel
theorem dX2_readItem_68 : decode cX2_readItem 68 = .ok (.areturn, 1) := by decide +kernel
theorem dX2_readItem_69 : decode cX2_readItem 69 = .ok (.aload_n 0, 1) := by decide +kernel
theorem dX2_readItem_70 : decode cX2_readItem 70 = .ok (.iload_n 1, 1) := by decide +kernel
theorem dX2_readItem_71 : decode cX2_readItem 71 = .ok (.iconst 1, 1) := by decide +kernel
theorem dX2_readItem_72 : decode cX2_readItem 72 = .ok (.iadd, 1) := by decide +kernel
theorem dX2_readItem_73 : decode cX2_readItem 73 = .ok (.invokevirtual 65, 3) := by decide +kernel
theorem dX2_readItem_76 : decode cX2_readItem 76 = .ok (.astore_n 2, 1) := by decide +kernel
theorem dX2_readItem_77 : decode cX2_readItem 77 = .ok (.aload_n 2, 1) := by decide +kernel
theorem dX2_readItem_78 : decode cX2_readItem 78 = .ok (.ifnull 19, 3) := by decide +kernel
theorem dX2_readItem_81 : decode cX2_readItem 81 = .ok (.aload_n 0, 1) := by decide +kernel
theorem dX2_readItem_82 : decode cX2_readItem 82 = .ok (.getfield 21, 3) := by decide +kernel
theorem dX2_readItem_85 : decode cX2_readItem 85 = .ok (.bipush 19, 2) := by decide +kernel
theorem dX2_readItem_87 : decode cX2_readItem 87 = .ok (.invokevirtual 54, 3) := by decide +kernel
theorem dX2_readItem_90 : decode cX2_readItem 90 = .ok (.ifCond .eq 7, 3) := by decide +kernel
theorem dX2_readItem_93 : decode cX2_readItem 93 = .ok (.aload_n 2, 1) := by decide +kernel
theorem dX2_readItem_94 : decode cX2_readItem 94 = .ok (.goto 4, 3) := by decide +kernel
theorem dX2_readItem_97 : decode cX2_readItem 97 = .ok (.aconst_null, 1) := by decide +kernel
theorem dX2_readItem_98 : decode cX2_readItem 98 = .ok (.areturn, 1) := by decide +kernel
theorem dX3_init_0 : decode cX3_init 0 = .ok (.aload_n 0, 1) := by decide +kernel
theorem dX3_init_1 : decode cX3_init 1 = .ok (.invokespecial 3, 3) := by decide +kernel
theorem dX3_init_4 : decode cX3_init 4 = .ok (.aload_n 0, 1) := by decide +kernel
theorem dX3_init_5 : decode cX3_init 5 = .ok (.iload_n 1, 1) := by decide +kernel
theorem dX3_init_6 : decode cX3_init 6 = .ok (.putfield 9, 3) := by decide +kernel
theorem dX3_init_9 : decode cX3_init 9 = .ok (.aload_n 0, 1) := by decide +kernel
theorem dX3_init_10 : decode cX3_init 10 = .ok (.iload_n 2, 1) := by decide +kernel
theorem dX3_init_11 : decode cX3_init 11 = .ok (.putfield 15, 3) := by decide +kernel
theorem dX3_init_14 : decode cX3_init 14 = .ok (.aload_n 0, 1) := by decide +kernel
theorem dX3_init_15 : decode cX3_init 15 = .ok (.iload_n 3, 1) := by decide +kernel
theorem dX3_init_16 : decode cX3_init 16 = .ok (.putfield 18, 3) := by decide +kernel
theorem dX3_init_19 : decode cX3_init 19 = .ok (.aload_n 0, 1) := by decide +kernel
theorem dX3_init_20 : decode cX3_init 20 = .ok (.iload 4, 2) := by decide +kernel
theorem dX3_init_22 : decode cX3_init 22 = .ok (.putfield 21, 3) := by decide +kernel
theorem dX3_init_25 : decode cX3_init 25 = .ok (.aload_n 0, 1) := by decide +kernel
theorem dX3_init_26 : decode cX3_init 26 = .ok (.aload 5, 2) := by decide +kernel
theorem dX3_init_28 : decode cX3_init 28 = .ok (.putfield 25, 3) := by decide +kernel
theorem dX3_init_31 : decode cX3_init 31 = .ok (.aload_n 0, 1) := by decide +kernel
theorem dX3_init_32 : decode cX3_init 32 = .ok (.aload 6, 2) := by decide +kernel
theorem dX3_init_34 : decode cX3_init 34 = .ok (.putfield 29, 3) := by decide +kernel
theorem dX3_init_37 : decode cX3_init 37 = .ok (.aload_n 0, 1) := by decide +kernel
theorem dX3_init_38 : decode cX3_init 38 = .ok (.aload 7, 2) := by decide +kernel
theorem dX3_init_40 : decode cX3_init 40 = .ok (.putfield 33, 3) := by decide +kernel
theorem dX3_init_43 : decode cX3_init 43 = .ok (.return_, 1) := by decide +kernel
theorem dX3_withActs_0 : decode cX3_withActs 0 = .ok (.new 10, 3) := by decide +kernel
theorem dX3_withActs_3 : decode cX3_withActs 3 = .ok (.dup, 1) := by decide +kernel
theorem dX3_withActs_4 : decode cX3_withActs 4 = .ok (.aload_n 0, 1) := by decide +kernel
theorem dX3_withActs_5 : decode cX3_withActs 5 = .ok (.getfield 9, 3) := by decide +kernel
theorem dX3_withActs_8 : decode cX3_withActs 8 = .ok (.aload_n 0, 1) := by decide +kernel
theorem dX3_withActs_9 : decode cX3_withActs 9 = .ok (.getfield 15, 3) := by decide +kernel
theorem dX3_withActs_12 : decode cX3_withActs 12 = .ok (.aload_n 0, 1) := by decide +kernel
theorem dX3_withActs_13 : decode cX3_withActs 13 = .ok (.getfield 18, 3) := by decide +kernel
theorem dX3_withActs_16 : decode cX3_withActs 16 = .ok (.aload_n 0, 1) := by decide +kernel
theorem dX3_withActs_17 : decode cX3_withActs 17 = .ok (.getfield 21, 3) := by decide +kernel
theorem dX3_withActs_20 : decode cX3_withActs 20 = .ok (.aload_n 1, 1) := by decide +kernel
theorem dX3_withActs_21 : decode cX3_withActs 21 = .ok (.aload_n 0, 1) := by decide +kernel
theorem dX3_withActs_22 : decode cX3_withActs 22 = .ok (.getfield 29, 3) := by decide +kernel
theorem dX3_withActs_25 : decode cX3_withActs 25 = .ok (.aload_n 0, 1) := by decide +kernel
theorem dX3_withActs_26 : decode cX3_withActs 26 = .ok (.getfield 33, 3) := by decide +kernel
theorem dX3_withActs_29 : decode cX3_withActs 29 = .ok (.invokespecial 36, 3) := by decide +kernel
theorem dX3_withActs_32 : decode cX3_withActs 32 = .ok (.areturn, 1) := by decide +kernel
theorem dX3_withAct_0 : decode cX3_withAct 0 = .ok (.iconst 1, 1) := by decide +kernel
theorem dX3_withAct_1 : decode cX3_withAct 1 = .ok (.newarray .int, 2) := by decide +kernel
theorem dX3_withAct_3 : decode cX3_withAct 3 = .ok (.dup, 1) := by decide +kernel
theorem dX3_withAct_4 : decode cX3_withAct 4 = .ok (.iconst 0, 1) := by decide +kernel
theorem dX3_withAct_5 : decode cX3_withAct 5 = .ok (.iload_n 1, 1) := by decide +kernel
theorem dX3_withAct_6 : decode cX3_withAct 6 = .ok (.ifCond .lt 21, 3) := by decide +kernel
theorem dX3_withAct_9 : decode cX3_withAct 9 = .ok (.iload_n 1, 1) := by decide +kernel
theorem dX3_withAct_10 : decode cX3_withAct 10 = .ok (.aload_n 0, 1) := by decide +kernel
theorem dX3_withAct_11 : decode cX3_withAct 11 = .ok (.getfield 25, 3) := by decide +kernel
theorem dX3_withAct_14 : decode cX3_withAct 14 = .ok (.arraylength, 1) := by decide +kernel
theorem dX3_withAct_15 : decode cX3_withAct 15 = .ok (.if_icmp .ge 12, 3) := by decide +kernel
theorem dX3_withAct_18 : decode cX3_withAct 18 = .ok (.aload_n 0, 1) := by decide +kernel
theorem dX3_withAct_19 : decode cX3_withAct 19 = .ok (.getfield 25, 3) := by decide +kernel
theorem dX3_withAct_22 : decode cX3_withAct 22 = .ok (.iload_n 1, 1) := by decide +kernel
theorem dX3_withAct_23 : decode cX3_withAct 23 = .ok (.iaload, 1) := by decide +kernel
theorem dX3_withAct_24 : decode cX3_withAct 24 = .ok (.goto 4, 3) := by decide +kernel
theorem dX3_withAct_27 : decode cX3_withAct 27 = .ok (.iconst (-1), 1) := by decide +kernel
theorem dX3_withAct_28 : decode cX3_withAct 28 = .ok (.iastore, 1) := by decide +kernel
theorem dX3_withAct_29 : decode cX3_withAct 29 = .ok (.astore_n 2, 1) := by decide +kernel
theorem dX3_withAct_30 : decode cX3_withAct 30 = .ok (.aload_n 0, 1) := by decide +kernel
theorem dX3_withAct_31 : decode cX3_withAct 31 = .ok (.aload_n 2, 1) := by decide +kernel
theorem dX3_withAct_32 : decode cX3_withAct 32 = .ok (.invokevirtual 39, 3) := by decide +kernel
theorem dX3_withAct_35 : decode cX3_withAct 35 = .ok (.areturn, 1) := by decide +kernel
theorem dX3_canTurn_0 : decode cX3_canTurn 0 = .ok (.aload_n 0, 1) := by decide +kernel
theorem dX3_canTurn_1 : decode cX3_canTurn 1 = .ok (.getfield 21, 3) := by decide +kernel
theorem dX3_canTurn_4 : decode cX3_canTurn 4 = .ok (.ifCond .eq 15, 3) := by decide +kernel
theorem dX3_canTurn_7 : decode cX3_canTurn 7 = .ok (.aload_n 0, 1) := by decide +kernel
theorem dX3_canTurn_8 : decode cX3_canTurn 8 = .ok (.getfield 9, 3) := by decide +kernel
theorem dX3_canTurn_11 : decode cX3_canTurn 11 = .ok (.iconst 3, 1) := by decide +kernel
theorem dX3_canTurn_12 : decode cX3_canTurn 12 = .ok (.if_icmp .eq 7, 3) := by decide +kernel
theorem dX3_canTurn_15 : decode cX3_canTurn 15 = .ok (.iconst 1, 1) := by decide +kernel
theorem dX3_canTurn_16 : decode cX3_canTurn 16 = .ok (.goto 4, 3) := by decide +kernel
theorem dX3_canTurn_19 : decode cX3_canTurn 19 = .ok (.iconst 0, 1) := by decide +kernel
theorem dX3_canTurn_20 : decode cX3_canTurn 20 = .ok (.ireturn, 1) := by decide +kernel
theorem dX3_turned_0 : decode cX3_turned 0 = .ok (.new 10, 3) := by decide +kernel
theorem dX3_turned_3 : decode cX3_turned 3 = .ok (.dup, 1) := by decide +kernel
theorem dX3_turned_4 : decode cX3_turned 4 = .ok (.aload_n 0, 1) := by decide +kernel
theorem dX3_turned_5 : decode cX3_turned 5 = .ok (.getfield 9, 3) := by decide +kernel
theorem dX3_turned_8 : decode cX3_turned 8 = .ok (.aload_n 0, 1) := by decide +kernel
theorem dX3_turned_9 : decode cX3_turned 9 = .ok (.getfield 15, 3) := by decide +kernel
theorem dX3_turned_12 : decode cX3_turned 12 = .ok (.aload_n 0, 1) := by decide +kernel
theorem dX3_turned_13 : decode cX3_turned 13 = .ok (.getfield 18, 3) := by decide +kernel
theorem dX3_turned_16 : decode cX3_turned 16 = .ok (.iconst 0, 1) := by decide +kernel
theorem dX3_turned_17 : decode cX3_turned 17 = .ok (.aload_n 0, 1) := by decide +kernel
theorem dX3_turned_18 : decode cX3_turned 18 = .ok (.getfield 25, 3) := by decide +kernel
theorem dX3_turned_21 : decode cX3_turned 21 = .ok (.aload_n 0, 1) := by decide +kernel
theorem dX3_turned_22 : decode cX3_turned 22 = .ok (.getfield 29, 3) := by decide +kernel
theorem dX3_turned_25 : decode cX3_turned 25 = .ok (.aload_n 0, 1) := by decide +kernel
theorem dX3_turned_26 : decode cX3_turned 26 = .ok (.getfield 33, 3) := by decide +kernel
theorem dX3_turned_29 : decode cX3_turned 29 = .ok (.invokespecial 36, 3) := by decide +kernel
theorem dX3_turned_32 : decode cX3_turned 32 = .ok (.areturn, 1) := by decide +kernel
theorem dX3_canEase_0 : decode cX3_canEase 0 = .ok (.aload_n 0, 1) := by decide +kernel
theorem dX3_canEase_1 : decode cX3_canEase 1 = .ok (.getfield 33, 3) := by decide +kernel
theorem dX3_canEase_4 : decode cX3_canEase 4 = .ok (.ifnonnull 20, 3) := by decide +kernel
theorem dX3_canEase_7 : decode cX3_canEase 7 = .ok (.aload_n 0, 1) := by decide +kernel
theorem dX3_canEase_8 : decode cX3_canEase 8 = .ok (.getfield 29, 3) := by decide +kernel
theorem dX3_canEase_11 : decode cX3_canEase 11 = .ok (.ifnull 17, 3) := by decide +kernel
theorem dX3_canEase_14 : decode cX3_canEase 14 = .ok (.aload_n 0, 1) := by decide +kernel
theorem dX3_canEase_15 : decode cX3_canEase 15 = .ok (.getfield 29, 3) := by decide +kernel
theorem dX3_canEase_18 : decode cX3_canEase 18 = .ok (.getfield 43, 3) := by decide +kernel
theorem dX3_canEase_21 : decode cX3_canEase 21 = .ok (.ifCond .eq 7, 3) := by decide +kernel
theorem dX3_canEase_24 : decode cX3_canEase 24 = .ok (.iconst 1, 1) := by decide +kernel
theorem dX3_canEase_25 : decode cX3_canEase 25 = .ok (.goto 4, 3) := by decide +kernel
theorem dX3_canEase_28 : decode cX3_canEase 28 = .ok (.iconst 0, 1) := by decide +kernel
theorem dX3_canEase_29 : decode cX3_canEase 29 = .ok (.ireturn, 1) := by decide +kernel
theorem dX3_eased_0 : decode cX3_eased 0 = .ok (.aload_n 0, 1) := by decide +kernel
theorem dX3_eased_1 : decode cX3_eased 1 = .ok (.getfield 29, 3) := by decide +kernel
theorem dX3_eased_4 : decode cX3_eased 4 = .ok (.astore_n 1, 1) := by decide +kernel
theorem dX3_eased_5 : decode cX3_eased 5 = .ok (.aload_n 0, 1) := by decide +kernel
theorem dX3_eased_6 : decode cX3_eased 6 = .ok (.getfield 33, 3) := by decide +kernel
theorem dX3_eased_9 : decode cX3_eased 9 = .ok (.ifnull 32, 3) := by decide +kernel
theorem dX3_eased_12 : decode cX3_eased 12 = .ok (.aload_n 0, 1) := by decide +kernel
theorem dX3_eased_13 : decode cX3_eased 13 = .ok (.getfield 33, 3) := by decide +kernel
theorem dX3_eased_16 : decode cX3_eased 16 = .ok (.invokestatic 48, 3) := by decide +kernel
theorem dX3_eased_19 : decode cX3_eased 19 = .ok (.astore_n 2, 1) := by decide +kernel
theorem dX3_eased_20 : decode cX3_eased 20 = .ok (.aload_n 0, 1) := by decide +kernel
theorem dX3_eased_21 : decode cX3_eased 21 = .ok (.getfield 29, 3) := by decide +kernel
theorem dX3_eased_24 : decode cX3_eased 24 = .ok (.ifnonnull 7, 3) := by decide +kernel
theorem dX3_eased_27 : decode cX3_eased 27 = .ok (.aload_n 2, 1) := by decide +kernel
theorem dX3_eased_28 : decode cX3_eased 28 = .ok (.goto 12, 3) := by decide +kernel
theorem dX3_eased_31 : decode cX3_eased 31 = .ok (.iconst 1, 1) := by decide +kernel
theorem dX3_eased_32 : decode cX3_eased 32 = .ok (.aload_n 0, 1) := by decide +kernel
theorem dX3_eased_33 : decode cX3_eased 33 = .ok (.getfield 29, 3) := by decide +kernel
theorem dX3_eased_36 : decode cX3_eased 36 = .ok (.aload_n 2, 1) := by decide +kernel
theorem dX3_eased_37 : decode cX3_eased 37 = .ok (.invokestatic 52, 3) := by decide +kernel
theorem dX3_eased_40 : decode cX3_eased 40 = .ok (.astore_n 1, 1) := by decide +kernel
theorem dX3_eased_41 : decode cX3_eased 41 = .ok (.aload_n 1, 1) := by decide +kernel
theorem dX3_eased_42 : decode cX3_eased 42 = .ok (.ifnonnull 7, 3) := by decide +kernel
theorem dX3_eased_45 : decode cX3_eased 45 = .ok (.aconst_null, 1) := by decide +kernel
theorem dX3_eased_46 : decode cX3_eased 46 = .ok (.goto 8, 3) := by decide +kernel
theorem dX3_eased_49 : decode cX3_eased 49 = .ok (.aload_n 1, 1) := by decide +kernel
theorem dX3_eased_50 : decode cX3_eased 50 = .ok (.iconst 0, 1) := by decide +kernel
theorem dX3_eased_51 : decode cX3_eased 51 = .ok (.invokestatic 56, 3) := by decide +kernel
theorem dX3_eased_54 : decode cX3_eased 54 = .ok (.astore_n 2, 1) := by decide +kernel
theorem dX3_eased_55 : decode cX3_eased 55 = .ok (.new 10, 3) := by decide +kernel
theorem dX3_eased_58 : decode cX3_eased 58 = .ok (.dup, 1) := by decide +kernel
theorem dX3_eased_59 : decode cX3_eased 59 = .ok (.aload_n 0, 1) := by decide +kernel
theorem dX3_eased_60 : decode cX3_eased 60 = .ok (.getfield 9, 3) := by decide +kernel
theorem dX3_eased_63 : decode cX3_eased 63 = .ok (.aload_n 0, 1) := by decide +kernel
theorem dX3_eased_64 : decode cX3_eased 64 = .ok (.getfield 15, 3) := by decide +kernel
theorem dX3_eased_67 : decode cX3_eased 67 = .ok (.aload_n 0, 1) := by decide +kernel
theorem dX3_eased_68 : decode cX3_eased 68 = .ok (.getfield 18, 3) := by decide +kernel
theorem dX3_eased_71 : decode cX3_eased 71 = .ok (.aload_n 0, 1) := by decide +kernel
theorem dX3_eased_72 : decode cX3_eased 72 = .ok (.getfield 21, 3) := by decide +kernel
theorem dX3_eased_75 : decode cX3_eased 75 = .ok (.aload_n 0, 1) := by decide +kernel
theorem dX3_eased_76 : decode cX3_eased 76 = .ok (.getfield 25, 3) := by decide +kernel
theorem dX3_eased_79 : decode cX3_eased 79 = .ok (.aload_n 2, 1) := by decide +kernel
theorem dX3_eased_80 : decode cX3_eased 80 = .ok (.aconst_null, 1) := by decide +kernel
theorem dX3_eased_81 : decode cX3_eased 81 = .ok (.invokespecial 36, 3) := by decide +kernel
theorem dX3_eased_84 : decode cX3_eased 84 = .ok (.areturn, 1) := by decide +kernel
theorem dX3_canMelt_0 : decode cX3_canMelt 0 = .ok (.aload_n 0, 1) := by decide +kernel
theorem dX3_canMelt_1 : decode cX3_canMelt 1 = .ok (.getfield 25, 3) := by decide +kernel
theorem dX3_canMelt_4 : decode cX3_canMelt 4 = .ok (.arraylength, 1) := by decide +kernel
theorem dX3_canMelt_5 : decode cX3_canMelt 5 = .ok (.aload_n 1, 1) := by decide +kernel
theorem dX3_canMelt_6 : decode cX3_canMelt 6 = .ok (.getfield 25, 3) := by decide +kernel
theorem dX3_canMelt_9 : decode cX3_canMelt 9 = .ok (.arraylength, 1) := by decide +kernel
theorem dX3_canMelt_10 : decode cX3_canMelt 10 = .ok (.iadd, 1) := by decide +kernel
theorem dX3_canMelt_11 : decode cX3_canMelt 11 = .ok (.iconst 3, 1) := by decide +kernel
theorem dX3_canMelt_12 : decode cX3_canMelt 12 = .ok (.if_icmp .gt 22, 3) := by decide +kernel
theorem dX3_canMelt_15 : decode cX3_canMelt 15 = .ok (.aload_n 0, 1) := by decide +kernel
theorem dX3_canMelt_16 : decode cX3_canMelt 16 = .ok (.aload_n 1, 1) := by decide +kernel
theorem dX3_canMelt_17 : decode cX3_canMelt 17 = .ok (.invokevirtual 60, 3) := by decide +kernel
theorem dX3_canMelt_20 : decode cX3_canMelt 20 = .ok (.ifCond .eq 14, 3) := by decide +kernel
theorem dX3_canMelt_23 : decode cX3_canMelt 23 = .ok (.aload_n 0, 1) := by decide +kernel
theorem dX3_canMelt_24 : decode cX3_canMelt 24 = .ok (.getfield 21, 3) := by decide +kernel
theorem dX3_canMelt_27 : decode cX3_canMelt 27 = .ok (.aload_n 1, 1) := by decide +kernel
theorem dX3_canMelt_28 : decode cX3_canMelt 28 = .ok (.getfield 21, 3) := by decide +kernel
theorem dX3_canMelt_31 : decode cX3_canMelt 31 = .ok (.if_icmp .eq 5, 3) := by decide +kernel
theorem dX3_canMelt_34 : decode cX3_canMelt 34 = .ok (.iconst 0, 1) := by decide +kernel
theorem dX3_canMelt_35 : decode cX3_canMelt 35 = .ok (.ireturn, 1) := by decide +kernel
theorem dX3_canMelt_36 : decode cX3_canMelt 36 = .ok (.aload_n 1, 1) := by decide +kernel
theorem dX3_canMelt_37 : decode cX3_canMelt 37 = .ok (.getfield 25, 3) := by decide +kernel
theorem dX3_canMelt_40 : decode cX3_canMelt 40 = .ok (.astore_n 2, 1) := by decide +kernel
theorem dX3_canMelt_41 : decode cX3_canMelt 41 = .ok (.aload_n 2, 1) := by decide +kernel
theorem dX3_canMelt_42 : decode cX3_canMelt 42 = .ok (.arraylength, 1) := by decide +kernel
theorem dX3_canMelt_43 : decode cX3_canMelt 43 = .ok (.istore_n 3, 1) := by decide +kernel
theorem dX3_canMelt_44 : decode cX3_canMelt 44 = .ok (.iconst 0, 1) := by decide +kernel
theorem dX3_canMelt_45 : decode cX3_canMelt 45 = .ok (.istore 4, 2) := by decide +kernel
theorem dX3_canMelt_47 : decode cX3_canMelt 47 = .ok (.iload 4, 2) := by decide +kernel
theorem dX3_canMelt_49 : decode cX3_canMelt 49 = .ok (.iload_n 3, 1) := by decide +kernel
theorem dX3_canMelt_50 : decode cX3_canMelt 50 = .ok (.if_icmp .ge 26, 3) := by decide +kernel
theorem dX3_canMelt_53 : decode cX3_canMelt 53 = .ok (.aload_n 2, 1) := by decide +kernel
theorem dX3_canMelt_54 : decode cX3_canMelt 54 = .ok (.iload 4, 2) := by decide +kernel
theorem dX3_canMelt_56 : decode cX3_canMelt 56 = .ok (.iaload, 1) := by decide +kernel
theorem dX3_canMelt_57 : decode cX3_canMelt 57 = .ok (.istore 5, 2) := by decide +kernel
theorem dX3_canMelt_59 : decode cX3_canMelt 59 = .ok (.aload_n 0, 1) := by decide +kernel
theorem dX3_canMelt_60 : decode cX3_canMelt 60 = .ok (.iload 5, 2) := by decide +kernel
theorem dX3_canMelt_62 : decode cX3_canMelt 62 = .ok (.invokevirtual 64, 3) := by decide +kernel
theorem dX3_canMelt_65 : decode cX3_canMelt 65 = .ok (.ifCond .eq 5, 3) := by decide +kernel
theorem dX3_canMelt_68 : decode cX3_canMelt 68 = .ok (.iconst 0, 1) := by decide +kernel
theorem dX3_canMelt_69 : decode cX3_canMelt 69 = .ok (.ireturn, 1) := by decide +kernel
theorem dX3_canMelt_70 : decode cX3_canMelt 70 = .ok (.iinc 4 1, 3) := by decide +kernel
theorem dX3_canMelt_73 : decode cX3_canMelt 73 = .ok (.goto (-26), 3) := by decide +kernel
theorem dX3_canMelt_76 : decode cX3_canMelt 76 = .ok (.aload_n 0, 1) := by decide +kernel
theorem dX3_canMelt_77 : decode cX3_canMelt 77 = .ok (.getfield 29, 3) := by decide +kernel
theorem dX3_canMelt_80 : decode cX3_canMelt 80 = .ok (.aload_n 1, 1) := by decide +kernel
theorem dX3_canMelt_81 : decode cX3_canMelt 81 = .ok (.getfield 29, 3) := by decide +kernel
theorem dX3_canMelt_84 : decode cX3_canMelt 84 = .ok (.iconst 0, 1) := by decide +kernel
theorem dX3_canMelt_85 : decode cX3_canMelt 85 = .ok (.invokestatic 68, 3) := by decide +kernel
theorem dX3_canMelt_88 : decode cX3_canMelt 88 = .ok (.ifCond .eq 22, 3) := by decide +kernel
theorem dX3_canMelt_91 : decode cX3_canMelt 91 = .ok (.aload_n 0, 1) := by decide +kernel
theorem dX3_canMelt_92 : decode cX3_canMelt 92 = .ok (.getfield 33, 3) := by decide +kernel
theorem dX3_canMelt_95 : decode cX3_canMelt 95 = .ok (.aload_n 1, 1) := by decide +kernel
theorem dX3_canMelt_96 : decode cX3_canMelt 96 = .ok (.getfield 33, 3) := by decide +kernel
theorem dX3_canMelt_99 : decode cX3_canMelt 99 = .ok (.iconst 0, 1) := by decide +kernel
theorem dX3_canMelt_100 : decode cX3_canMelt 100 = .ok (.invokestatic 68, 3) := by decide +kernel
theorem dX3_canMelt_103 : decode cX3_canMelt 103 = .ok (.ifCond .eq 7, 3) := by decide +kernel
theorem dX3_canMelt_106 : decode cX3_canMelt 106 = .ok (.iconst 1, 1) := by decide +kernel
theorem dX3_canMelt_107 : decode cX3_canMelt 107 = .ok (.goto 4, 3) := by decide +kernel
theorem dX3_canMelt_110 : decode cX3_canMelt 110 = .ok (.iconst 0, 1) := by decide +kernel
theorem dX3_canMelt_111 : decode cX3_canMelt 111 = .ok (.ireturn, 1) := by decide +kernel
theorem dX3_melted_0 : decode cX3_melted 0 = .ok (.aload_n 0, 1) := by decide +kernel
theorem dX3_melted_1 : decode cX3_melted 1 = .ok (.getfield 25, 3) := by decide +kernel
theorem dX3_melted_4 : decode cX3_melted 4 = .ok (.arraylength, 1) := by decide +kernel
theorem dX3_melted_5 : decode cX3_melted 5 = .ok (.aload_n 1, 1) := by decide +kernel
theorem dX3_melted_6 : decode cX3_melted 6 = .ok (.getfield 25, 3) := by decide +kernel
theorem dX3_melted_9 : decode cX3_melted 9 = .ok (.arraylength, 1) := by decide +kernel
theorem dX3_melted_10 : decode cX3_melted 10 = .ok (.iadd, 1) := by decide +kernel
theorem dX3_melted_11 : decode cX3_melted 11 = .ok (.newarray .int, 2) := by decide +kernel
theorem dX3_melted_13 : decode cX3_melted 13 = .ok (.astore_n 2, 1) := by decide +kernel
theorem dX3_melted_14 : decode cX3_melted 14 = .ok (.aload_n 0, 1) := by decide +kernel
theorem dX3_melted_15 : decode cX3_melted 15 = .ok (.getfield 25, 3) := by decide +kernel
theorem dX3_melted_18 : decode cX3_melted 18 = .ok (.iconst 0, 1) := by decide +kernel
theorem dX3_melted_19 : decode cX3_melted 19 = .ok (.aload_n 2, 1) := by decide +kernel
theorem dX3_melted_20 : decode cX3_melted 20 = .ok (.iconst 0, 1) := by decide +kernel
theorem dX3_melted_21 : decode cX3_melted 21 = .ok (.aload_n 0, 1) := by decide +kernel
theorem dX3_melted_22 : decode cX3_melted 22 = .ok (.getfield 25, 3) := by decide +kernel
theorem dX3_melted_25 : decode cX3_melted 25 = .ok (.arraylength, 1) := by decide +kernel
theorem dX3_melted_26 : decode cX3_melted 26 = .ok (.invokestatic 72, 3) := by decide +kernel
theorem dX3_melted_29 : decode cX3_melted 29 = .ok (.aload_n 1, 1) := by decide +kernel
theorem dX3_melted_30 : decode cX3_melted 30 = .ok (.getfield 25, 3) := by decide +kernel
theorem dX3_melted_33 : decode cX3_melted 33 = .ok (.iconst 0, 1) := by decide +kernel
theorem dX3_melted_34 : decode cX3_melted 34 = .ok (.aload_n 2, 1) := by decide +kernel
theorem dX3_melted_35 : decode cX3_melted 35 = .ok (.aload_n 0, 1) := by decide +kernel
theorem dX3_melted_36 : decode cX3_melted 36 = .ok (.getfield 25, 3) := by decide +kernel
theorem dX3_melted_39 : decode cX3_melted 39 = .ok (.arraylength, 1) := by decide +kernel
theorem dX3_melted_40 : decode cX3_melted 40 = .ok (.aload_n 1, 1) := by decide +kernel
theorem dX3_melted_41 : decode cX3_melted 41 = .ok (.getfield 25, 3) := by decide +kernel
theorem dX3_melted_44 : decode cX3_melted 44 = .ok (.arraylength, 1) := by decide +kernel
theorem dX3_melted_45 : decode cX3_melted 45 = .ok (.invokestatic 72, 3) := by decide +kernel
theorem dX3_melted_48 : decode cX3_melted 48 = .ok (.aload_n 0, 1) := by decide +kernel
theorem dX3_melted_49 : decode cX3_melted 49 = .ok (.aload_n 2, 1) := by decide +kernel
theorem dX3_melted_50 : decode cX3_melted 50 = .ok (.invokevirtual 39, 3) := by decide +kernel
theorem dX3_melted_53 : decode cX3_melted 53 = .ok (.areturn, 1) := by decide +kernel
theorem dX3_asksLike_0 : decode cX3_asksLike 0 = .ok (.aload_n 0, 1) := by decide +kernel
theorem dX3_asksLike_1 : decode cX3_asksLike 1 = .ok (.getfield 9, 3) := by decide +kernel
theorem dX3_asksLike_4 : decode cX3_asksLike 4 = .ok (.aload_n 1, 1) := by decide +kernel
theorem dX3_asksLike_5 : decode cX3_asksLike 5 = .ok (.getfield 9, 3) := by decide +kernel
theorem dX3_asksLike_8 : decode cX3_asksLike 8 = .ok (.if_icmp .ne 29, 3) := by decide +kernel
theorem dX3_asksLike_11 : decode cX3_asksLike 11 = .ok (.aload_n 0, 1) := by decide +kernel
theorem dX3_asksLike_12 : decode cX3_asksLike 12 = .ok (.getfield 15, 3) := by decide +kernel
theorem dX3_asksLike_15 : decode cX3_asksLike 15 = .ok (.aload_n 1, 1) := by decide +kernel
theorem dX3_asksLike_16 : decode cX3_asksLike 16 = .ok (.getfield 15, 3) := by decide +kernel
theorem dX3_asksLike_19 : decode cX3_asksLike 19 = .ok (.if_icmp .ne 18, 3) := by decide +kernel
theorem dX3_asksLike_22 : decode cX3_asksLike 22 = .ok (.aload_n 0, 1) := by decide +kernel
theorem dX3_asksLike_23 : decode cX3_asksLike 23 = .ok (.getfield 18, 3) := by decide +kernel
theorem dX3_asksLike_26 : decode cX3_asksLike 26 = .ok (.aload_n 1, 1) := by decide +kernel
theorem dX3_asksLike_27 : decode cX3_asksLike 27 = .ok (.getfield 18, 3) := by decide +kernel
theorem dX3_asksLike_30 : decode cX3_asksLike 30 = .ok (.if_icmp .ne 7, 3) := by decide +kernel
theorem dX3_asksLike_33 : decode cX3_asksLike 33 = .ok (.iconst 1, 1) := by decide +kernel
theorem dX3_asksLike_34 : decode cX3_asksLike 34 = .ok (.goto 4, 3) := by decide +kernel
theorem dX3_asksLike_37 : decode cX3_asksLike 37 = .ok (.iconst 0, 1) := by decide +kernel
theorem dX3_asksLike_38 : decode cX3_asksLike 38 = .ok (.ireturn, 1) := by decide +kernel
theorem dX3_names_0 : decode cX3_names 0 = .ok (.aload_n 0, 1) := by decide +kernel
theorem dX3_names_1 : decode cX3_names 1 = .ok (.getfield 25, 3) := by decide +kernel
theorem dX3_names_4 : decode cX3_names 4 = .ok (.astore_n 2, 1) := by decide +kernel
theorem dX3_names_5 : decode cX3_names 5 = .ok (.aload_n 2, 1) := by decide +kernel
theorem dX3_names_6 : decode cX3_names 6 = .ok (.arraylength, 1) := by decide +kernel
theorem dX3_names_7 : decode cX3_names 7 = .ok (.istore_n 3, 1) := by decide +kernel
theorem dX3_names_8 : decode cX3_names 8 = .ok (.iconst 0, 1) := by decide +kernel
theorem dX3_names_9 : decode cX3_names 9 = .ok (.istore 4, 2) := by decide +kernel
theorem dX3_names_11 : decode cX3_names 11 = .ok (.iload 4, 2) := by decide +kernel
theorem dX3_names_13 : decode cX3_names 13 = .ok (.iload_n 3, 1) := by decide +kernel
theorem dX3_names_14 : decode cX3_names 14 = .ok (.if_icmp .ge 23, 3) := by decide +kernel
theorem dX3_names_17 : decode cX3_names 17 = .ok (.aload_n 2, 1) := by decide +kernel
theorem dX3_names_18 : decode cX3_names 18 = .ok (.iload 4, 2) := by decide +kernel
theorem dX3_names_20 : decode cX3_names 20 = .ok (.iaload, 1) := by decide +kernel
theorem dX3_names_21 : decode cX3_names 21 = .ok (.istore 5, 2) := by decide +kernel
theorem dX3_names_23 : decode cX3_names 23 = .ok (.iload 5, 2) := by decide +kernel
theorem dX3_names_25 : decode cX3_names 25 = .ok (.iload_n 1, 1) := by decide +kernel
theorem dX3_names_26 : decode cX3_names 26 = .ok (.if_icmp .ne 5, 3) := by decide +kernel
theorem dX3_names_29 : decode cX3_names 29 = .ok (.iconst 1, 1) := by decide +kernel
theorem dX3_names_30 : decode cX3_names 30 = .ok (.ireturn, 1) := by decide +kernel
theorem dX3_names_31 : decode cX3_names 31 = .ok (.iinc 4 1, 3) := by decide +kernel
theorem dX3_names_34 : decode cX3_names 34 = .ok (.goto (-23), 3) := by decide +kernel
theorem dX3_names_37 : decode cX3_names 37 = .ok (.iconst 0, 1) := by decide +kernel
theorem dX3_names_38 : decode cX3_names 38 = .ok (.ireturn, 1) := by decide +kernel
theorem dX3_truth_0 : decode cX3_truth 0 = .ok (.aload_n 0, 1) := by decide +kernel
theorem dX3_truth_1 : decode cX3_truth 1 = .ok (.getfield 29, 3) := by decide +kernel
theorem dX3_truth_4 : decode cX3_truth 4 = .ok (.ifnonnull 9, 3) := by decide +kernel
theorem dX3_truth_7 : decode cX3_truth 7 = .ok (.ldc2_w 78, 3) := by decide +kernel
theorem dX3_truth_10 : decode cX3_truth 10 = .ok (.goto 10, 3) := by decide +kernel
theorem dX3_truth_13 : decode cX3_truth 13 = .ok (.aload_n 0, 1) := by decide +kernel
theorem dX3_truth_14 : decode cX3_truth 14 = .ok (.getfield 29, 3) := by decide +kernel
theorem dX3_truth_17 : decode cX3_truth 17 = .ok (.getfield 80, 3) := by decide +kernel
theorem dX3_truth_20 : decode cX3_truth 20 = .ok (.lstore_n 1, 1) := by decide +kernel
theorem dX3_truth_21 : decode cX3_truth 21 = .ok (.aload_n 0, 1) := by decide +kernel
theorem dX3_truth_22 : decode cX3_truth 22 = .ok (.getfield 33, 3) := by decide +kernel
theorem dX3_truth_25 : decode cX3_truth 25 = .ok (.ifnonnull 7, 3) := by decide +kernel
theorem dX3_truth_28 : decode cX3_truth 28 = .ok (.lload_n 1, 1) := by decide +kernel
theorem dX3_truth_29 : decode cX3_truth 29 = .ok (.goto 16, 3) := by decide +kernel
theorem dX3_truth_32 : decode cX3_truth 32 = .ok (.lload_n 1, 1) := by decide +kernel
theorem dX3_truth_33 : decode cX3_truth 33 = .ok (.aload_n 0, 1) := by decide +kernel
theorem dX3_truth_34 : decode cX3_truth 34 = .ok (.getfield 33, 3) := by decide +kernel
theorem dX3_truth_37 : decode cX3_truth 37 = .ok (.getfield 80, 3) := by decide +kernel
theorem dX3_truth_40 : decode cX3_truth 40 = .ok (.ldc2_w 78, 3) := by decide +kernel
theorem dX3_truth_43 : decode cX3_truth 43 = .ok (.lxor, 1) := by decide +kernel
theorem dX3_truth_44 : decode cX3_truth 44 = .ok (.land, 1) := by decide +kernel
theorem dX3_truth_45 : decode cX3_truth 45 = .ok (.lreturn, 1) := by decide +kernel
theorem dX3_asks_0 : decode cX3_asks 0 = .ok (.aload_n 0, 1) := by decide +kernel
theorem dX3_asks_1 : decode cX3_asks 1 = .ok (.getfield 9, 3) := by decide +kernel
theorem dX3_asks_4 : decode cX3_asks 4 = .ok (.iload_n 1, 1) := by decide +kernel
theorem dX3_asks_5 : decode cX3_asks 5 = .ok (.if_icmp .ne 31, 3) := by decide +kernel
theorem dX3_asks_8 : decode cX3_asks 8 = .ok (.aload_n 0, 1) := by decide +kernel
theorem dX3_asks_9 : decode cX3_asks 9 = .ok (.iload_n 2, 1) := by decide +kernel
theorem dX3_asks_10 : decode cX3_asks 10 = .ok (.invokevirtual 64, 3) := by decide +kernel
theorem dX3_asks_13 : decode cX3_asks 13 = .ok (.ifCond .eq 23, 3) := by decide +kernel
theorem dX3_asks_16 : decode cX3_asks 16 = .ok (.aload_n 0, 1) := by decide +kernel
theorem dX3_asks_17 : decode cX3_asks 17 = .ok (.invokevirtual 84, 3) := by decide +kernel
theorem dX3_asks_20 : decode cX3_asks 20 = .ok (.iload_n 3, 1) := by decide +kernel
theorem dX3_asks_21 : decode cX3_asks 21 = .ok (.bipush 63, 2) := by decide +kernel
theorem dX3_asks_23 : decode cX3_asks 23 = .ok (.iand, 1) := by decide +kernel
theorem dX3_asks_24 : decode cX3_asks 24 = .ok (.lushr, 1) := by decide +kernel
theorem dX3_asks_25 : decode cX3_asks 25 = .ok (.lconst 1, 1) := by decide +kernel
theorem dX3_asks_26 : decode cX3_asks 26 = .ok (.land, 1) := by decide +kernel
theorem dX3_asks_27 : decode cX3_asks 27 = .ok (.lconst 0, 1) := by decide +kernel
theorem dX3_asks_28 : decode cX3_asks 28 = .ok (.lcmp, 1) := by decide +kernel
theorem dX3_asks_29 : decode cX3_asks 29 = .ok (.ifCond .eq 7, 3) := by decide +kernel
theorem dX3_asks_32 : decode cX3_asks 32 = .ok (.iconst 1, 1) := by decide +kernel
theorem dX3_asks_33 : decode cX3_asks 33 = .ok (.goto 4, 3) := by decide +kernel
theorem dX3_asks_36 : decode cX3_asks 36 = .ok (.iconst 0, 1) := by decide +kernel
theorem dX3_asks_37 : decode cX3_asks 37 = .ok (.ireturn, 1) := by decide +kernel
theorem dX3_words_0 : decode cX3_words 0 = .ok (.iconst 3, 1) := by decide +kernel
theorem dX3_words_1 : decode cX3_words 1 = .ok (.iload_n 1, 1) := by decide +kernel
theorem dX3_words_2 : decode cX3_words 2 = .ok (.imul, 1) := by decide +kernel
theorem dX3_words_3 : decode cX3_words 3 = .ok (.iconst 1, 1) := by decide +kernel
theorem dX3_words_4 : decode cX3_words 4 = .ok (.isub, 1) := by decide +kernel
theorem dX3_words_5 : decode cX3_words 5 = .ok (.istore_n 2, 1) := by decide +kernel
theorem dX3_words_6 : decode cX3_words 6 = .ok (.iload_n 2, 1) := by decide +kernel
theorem dX3_words_7 : decode cX3_words 7 = .ok (.aload_n 0, 1) := by decide +kernel
theorem dX3_words_8 : decode cX3_words 8 = .ok (.getfield 15, 3) := by decide +kernel
theorem dX3_words_11 : decode cX3_words 11 = .ok (.iconst 1, 1) := by decide +kernel
theorem dX3_words_12 : decode cX3_words 12 = .ok (.if_icmp .ne 7, 3) := by decide +kernel
theorem dX3_words_15 : decode cX3_words 15 = .ok (.iconst 2, 1) := by decide +kernel
theorem dX3_words_16 : decode cX3_words 16 = .ok (.goto 4, 3) := by decide +kernel
theorem dX3_words_19 : decode cX3_words 19 = .ok (.iconst 1, 1) := by decide +kernel
theorem dX3_words_20 : decode cX3_words 20 = .ok (.iadd, 1) := by decide +kernel
theorem dX3_words_21 : decode cX3_words 21 = .ok (.istore_n 2, 1) := by decide +kernel
theorem dX3_words_22 : decode cX3_words 22 = .ok (.iload_n 2, 1) := by decide +kernel
theorem dX3_words_23 : decode cX3_words 23 = .ok (.aload_n 0, 1) := by decide +kernel
theorem dX3_words_24 : decode cX3_words 24 = .ok (.getfield 21, 3) := by decide +kernel
theorem dX3_words_27 : decode cX3_words 27 = .ok (.ifCond .eq 7, 3) := by decide +kernel
theorem dX3_words_30 : decode cX3_words 30 = .ok (.iconst 2, 1) := by decide +kernel
theorem dX3_words_31 : decode cX3_words 31 = .ok (.goto 4, 3) := by decide +kernel
theorem dX3_words_34 : decode cX3_words 34 = .ok (.iconst 0, 1) := by decide +kernel
theorem dX3_words_35 : decode cX3_words 35 = .ok (.iadd, 1) := by decide +kernel
theorem dX3_words_36 : decode cX3_words 36 = .ok (.istore_n 2, 1) := by decide +kernel
theorem dX3_words_37 : decode cX3_words 37 = .ok (.iload_n 2, 1) := by decide +kernel
theorem dX3_words_38 : decode cX3_words 38 = .ok (.aload_n 0, 1) := by decide +kernel
theorem dX3_words_39 : decode cX3_words 39 = .ok (.getfield 9, 3) := by decide +kernel
theorem dX3_words_42 : decode cX3_words 42 = .ok (.iconst 3, 1) := by decide +kernel
theorem dX3_words_43 : decode cX3_words 43 = .ok (.if_icmp .ne 7, 3) := by decide +kernel
theorem dX3_words_46 : decode cX3_words 46 = .ok (.iconst 0, 1) := by decide +kernel
theorem dX3_words_47 : decode cX3_words 47 = .ok (.goto 15, 3) := by decide +kernel
theorem dX3_words_50 : decode cX3_words 50 = .ok (.aload_n 0, 1) := by decide +kernel
theorem dX3_words_51 : decode cX3_words 51 = .ok (.getfield 21, 3) := by decide +kernel
theorem dX3_words_54 : decode cX3_words 54 = .ok (.ifCond .eq 7, 3) := by decide +kernel
theorem dX3_words_57 : decode cX3_words 57 = .ok (.iconst 2, 1) := by decide +kernel
theorem dX3_words_58 : decode cX3_words 58 = .ok (.goto 4, 3) := by decide +kernel
theorem dX3_words_61 : decode cX3_words 61 = .ok (.iconst 1, 1) := by decide +kernel
theorem dX3_words_62 : decode cX3_words 62 = .ok (.iadd, 1) := by decide +kernel
theorem dX3_words_63 : decode cX3_words 63 = .ok (.istore_n 2, 1) := by decide +kernel
theorem dX3_words_64 : decode cX3_words 64 = .ok (.iload_n 2, 1) := by decide +kernel
theorem dX3_words_65 : decode cX3_words 65 = .ok (.aload_n 0, 1) := by decide +kernel
theorem dX3_words_66 : decode cX3_words 66 = .ok (.getfield 29, 3) := by decide +kernel
theorem dX3_words_69 : decode cX3_words 69 = .ok (.ifnonnull 7, 3) := by decide +kernel
theorem dX3_words_72 : decode cX3_words 72 = .ok (.iconst 0, 1) := by decide +kernel
theorem dX3_words_73 : decode cX3_words 73 = .ok (.goto 12, 3) := by decide +kernel
theorem dX3_words_76 : decode cX3_words 76 = .ok (.iconst 1, 1) := by decide +kernel
theorem dX3_words_77 : decode cX3_words 77 = .ok (.aload_n 0, 1) := by decide +kernel
theorem dX3_words_78 : decode cX3_words 78 = .ok (.getfield 29, 3) := by decide +kernel
theorem dX3_words_81 : decode cX3_words 81 = .ok (.getfield 87, 3) := by decide +kernel
theorem dX3_words_84 : decode cX3_words 84 = .ok (.iadd, 1) := by decide +kernel
theorem dX3_words_85 : decode cX3_words 85 = .ok (.iadd, 1) := by decide +kernel
theorem dX3_words_86 : decode cX3_words 86 = .ok (.istore_n 2, 1) := by decide +kernel
theorem dX3_words_87 : decode cX3_words 87 = .ok (.iload_n 2, 1) := by decide +kernel
theorem dX3_words_88 : decode cX3_words 88 = .ok (.aload_n 0, 1) := by decide +kernel
theorem dX3_words_89 : decode cX3_words 89 = .ok (.getfield 33, 3) := by decide +kernel
theorem dX3_words_92 : decode cX3_words 92 = .ok (.ifnonnull 7, 3) := by decide +kernel
theorem dX3_words_95 : decode cX3_words 95 = .ok (.iconst 0, 1) := by decide +kernel
theorem dX3_words_96 : decode cX3_words 96 = .ok (.goto 12, 3) := by decide +kernel
theorem dX3_words_99 : decode cX3_words 99 = .ok (.iconst 1, 1) := by decide +kernel
theorem dX3_words_100 : decode cX3_words 100 = .ok (.aload_n 0, 1) := by decide +kernel
theorem dX3_words_101 : decode cX3_words 101 = .ok (.getfield 33, 3) := by decide +kernel
theorem dX3_words_104 : decode cX3_words 104 = .ok (.getfield 87, 3) := by decide +kernel
theorem dX3_words_107 : decode cX3_words 107 = .ok (.iadd, 1) := by decide +kernel
theorem dX3_words_108 : decode cX3_words 108 = .ok (.iadd, 1) := by decide +kernel
theorem dX3_words_109 : decode cX3_words 109 = .ok (.istore_n 2, 1) := by decide +kernel
theorem dX3_words_110 : decode cX3_words 110 = .ok (.aload_n 0, 1) := by decide +kernel
theorem dX3_words_111 : decode cX3_words 111 = .ok (.getfield 18, 3) := by decide +kernel
theorem dX3_words_114 : decode cX3_words 114 = .ok (.iconst (-1), 1) := by decide +kernel
theorem dX3_words_115 : decode cX3_words 115 = .ok (.if_icmp .ne 7, 3) := by decide +kernel
theorem dX3_words_118 : decode cX3_words 118 = .ok (.iload_n 2, 1) := by decide +kernel
theorem dX3_words_119 : decode cX3_words 119 = .ok (.goto 6, 3) := by decide +kernel
theorem dX3_words_122 : decode cX3_words 122 = .ok (.iload_n 2, 1) := by decide +kernel
theorem dX3_words_123 : decode cX3_words 123 = .ok (.iconst 2, 1) := by decide +kernel
theorem dX3_words_124 : decode cX3_words 124 = .ok (.iadd, 1) := by decide +kernel
theorem dX3_words_125 : decode cX3_words 125 = .ok (.ireturn, 1) := by decide +kernel
theorem dX3_nots_0 : decode cX3_nots 0 = .ok (.aload_n 0, 1) := by decide +kernel
theorem dX3_nots_1 : decode cX3_nots 1 = .ok (.getfield 29, 3) := by decide +kernel
theorem dX3_nots_4 : decode cX3_nots 4 = .ok (.ifnonnull 7, 3) := by decide +kernel
theorem dX3_nots_7 : decode cX3_nots 7 = .ok (.iconst 0, 1) := by decide +kernel
theorem dX3_nots_8 : decode cX3_nots 8 = .ok (.goto 10, 3) := by decide +kernel
theorem dX3_nots_11 : decode cX3_nots 11 = .ok (.aload_n 0, 1) := by decide +kernel
theorem dX3_nots_12 : decode cX3_nots 12 = .ok (.getfield 29, 3) := by decide +kernel
theorem dX3_nots_15 : decode cX3_nots 15 = .ok (.getfield 90, 3) := by decide +kernel
theorem dX3_nots_18 : decode cX3_nots 18 = .ok (.aload_n 0, 1) := by decide +kernel
theorem dX3_nots_19 : decode cX3_nots 19 = .ok (.getfield 33, 3) := by decide +kernel
theorem dX3_nots_22 : decode cX3_nots 22 = .ok (.ifnonnull 7, 3) := by decide +kernel
theorem dX3_nots_25 : decode cX3_nots 25 = .ok (.iconst 0, 1) := by decide +kernel
theorem dX3_nots_26 : decode cX3_nots 26 = .ok (.goto 10, 3) := by decide +kernel
theorem dX3_nots_29 : decode cX3_nots 29 = .ok (.aload_n 0, 1) := by decide +kernel
theorem dX3_nots_30 : decode cX3_nots 30 = .ok (.getfield 33, 3) := by decide +kernel
theorem dX3_nots_33 : decode cX3_nots 33 = .ok (.getfield 90, 3) := by decide +kernel
theorem dX3_nots_36 : decode cX3_nots 36 = .ok (.iadd, 1) := by decide +kernel
theorem dX3_nots_37 : decode cX3_nots 37 = .ok (.ireturn, 1) := by decide +kernel
theorem dX3_price_0 : decode cX3_price 0 = .ok (.aload_n 0, 1) := by decide +kernel
theorem dX3_price_1 : decode cX3_price 1 = .ok (.iload_n 1, 1) := by decide +kernel
theorem dX3_price_2 : decode cX3_price 2 = .ok (.invokevirtual 93, 3) := by decide +kernel
theorem dX3_price_5 : decode cX3_price 5 = .ok (.istore_n 2, 1) := by decide +kernel
theorem dX3_price_6 : decode cX3_price 6 = .ok (.iload_n 2, 1) := by decide +kernel
theorem dX3_price_7 : decode cX3_price 7 = .ok (.aload_n 0, 1) := by decide +kernel
theorem dX3_price_8 : decode cX3_price 8 = .ok (.getfield 21, 3) := by decide +kernel
theorem dX3_price_11 : decode cX3_price 11 = .ok (.ifCond .eq 7, 3) := by decide +kernel
theorem dX3_price_14 : decode cX3_price 14 = .ok (.iconst 3, 1) := by decide +kernel
theorem dX3_price_15 : decode cX3_price 15 = .ok (.goto 4, 3) := by decide +kernel
theorem dX3_price_18 : decode cX3_price 18 = .ok (.iconst 0, 1) := by decide +kernel
theorem dX3_price_19 : decode cX3_price 19 = .ok (.iadd, 1) := by decide +kernel
theorem dX3_price_20 : decode cX3_price 20 = .ok (.iconst 2, 1) := by decide +kernel
theorem dX3_price_21 : decode cX3_price 21 = .ok (.aload_n 0, 1) := by decide +kernel
theorem dX3_price_22 : decode cX3_price 22 = .ok (.invokevirtual 96, 3) := by decide +kernel
theorem dX3_price_25 : decode cX3_price 25 = .ok (.imul, 1) := by decide +kernel
theorem dX3_price_26 : decode cX3_price 26 = .ok (.iadd, 1) := by decide +kernel
theorem dX3_price_27 : decode cX3_price 27 = .ok (.aload_n 0, 1) := by decide +kernel
theorem dX3_price_28 : decode cX3_price 28 = .ok (.getfield 33, 3) := by decide +kernel
theorem dX3_price_31 : decode cX3_price 31 = .ok (.ifnonnull 7, 3) := by decide +kernel
theorem dX3_price_34 : decode cX3_price 34 = .ok (.iconst 0, 1) := by decide +kernel
theorem dX3_price_35 : decode cX3_price 35 = .ok (.goto 4, 3) := by decide +kernel
theorem dX3_price_38 : decode cX3_price 38 = .ok (.iconst 4, 1) := by decide +kernel
theorem dX3_price_39 : decode cX3_price 39 = .ok (.iadd, 1) := by decide +kernel
theorem dX3_price_40 : decode cX3_price 40 = .ok (.iconst 2, 1) := by decide +kernel
theorem dX3_price_41 : decode cX3_price 41 = .ok (.iconst 0, 1) := by decide +kernel
theorem dX3_price_42 : decode cX3_price 42 = .ok (.iload_n 2, 1) := by decide +kernel
theorem dX3_price_43 : decode cX3_price 43 = .ok (.bipush 10, 2) := by decide +kernel
theorem dX3_price_45 : decode cX3_price 45 = .ok (.isub, 1) := by decide +kernel
theorem dX3_price_46 : decode cX3_price 46 = .ok (.invokestatic 99, 3) := by decide +kernel
theorem dX3_price_49 : decode cX3_price 49 = .ok (.imul, 1) := by decide +kernel
theorem dX3_price_50 : decode cX3_price 50 = .ok (.iadd, 1) := by decide +kernel
theorem dX3_price_51 : decode cX3_price 51 = .ok (.iconst 5, 1) := by decide +kernel
theorem dX3_price_52 : decode cX3_price 52 = .ok (.iadd, 1) := by decide +kernel
theorem dX3_price_53 : decode cX3_price 53 = .ok (.ireturn, 1) := by decide +kernel
theorem dX3_trait_0 : decode cX3_trait 0 = .ok (.iload_n 1, 1) := by decide +kernel
theorem dX3_trait_1 : decode cX3_trait 1 = .ok (.tableswitch 123 0 8 #[51, 57, 62, 67, 72, 85, 95, 105, 110], 51) := by decide +kernel
theorem dX3_trait_52 : decode cX3_trait 52 = .ok (.aload_n 0, 1) := by decide +kernel
theorem dX3_trait_53 : decode cX3_trait 53 = .ok (.getfield 25, 3) := by decide +kernel
theorem dX3_trait_56 : decode cX3_trait 56 = .ok (.arraylength, 1) := by decide +kernel
theorem dX3_trait_57 : decode cX3_trait 57 = .ok (.ireturn, 1) := by decide +kernel
theorem dX3_trait_58 : decode cX3_trait 58 = .ok (.aload_n 0, 1) := by decide +kernel
theorem dX3_trait_59 : decode cX3_trait 59 = .ok (.getfield 9, 3) := by decide +kernel
theorem dX3_trait_62 : decode cX3_trait 62 = .ok (.ireturn, 1) := by decide +kernel
theorem dX3_trait_63 : decode cX3_trait 63 = .ok (.aload_n 0, 1) := by decide +kernel
theorem dX3_trait_64 : decode cX3_trait 64 = .ok (.getfield 15, 3) := by decide +kernel
theorem dX3_trait_67 : decode cX3_trait 67 = .ok (.ireturn, 1) := by decide +kernel
theorem dX3_trait_68 : decode cX3_trait 68 = .ok (.aload_n 0, 1) := by decide +kernel
theorem dX3_trait_69 : decode cX3_trait 69 = .ok (.getfield 18, 3) := by decide +kernel
theorem dX3_trait_72 : decode cX3_trait 72 = .ok (.ireturn, 1) := by decide +kernel
theorem dX3_trait_73 : decode cX3_trait 73 = .ok (.aload_n 0, 1) := by decide +kernel
theorem dX3_trait_74 : decode cX3_trait 74 = .ok (.getfield 21, 3) := by decide +kernel
theorem dX3_trait_77 : decode cX3_trait 77 = .ok (.ifCond .eq 7, 3) := by decide +kernel
theorem dX3_trait_80 : decode cX3_trait 80 = .ok (.iconst 1, 1) := by decide +kernel
theorem dX3_trait_81 : decode cX3_trait 81 = .ok (.goto 4, 3) := by decide +kernel
theorem dX3_trait_84 : decode cX3_trait 84 = .ok (.iconst 0, 1) := by decide +kernel
theorem dX3_trait_85 : decode cX3_trait 85 = .ok (.ireturn, 1) := by decide +kernel
theorem dX3_trait_86 : decode cX3_trait 86 = .ok (.aload_n 0, 1) := by decide +kernel
theorem dX3_trait_87 : decode cX3_trait 87 = .ok (.aload_n 0, 1) := by decide +kernel
theorem dX3_trait_88 : decode cX3_trait 88 = .ok (.getfield 25, 3) := by decide +kernel
theorem dX3_trait_91 : decode cX3_trait 91 = .ok (.arraylength, 1) := by decide +kernel
theorem dX3_trait_92 : decode cX3_trait 92 = .ok (.invokevirtual 93, 3) := by decide +kernel
theorem dX3_trait_95 : decode cX3_trait 95 = .ok (.ireturn, 1) := by decide +kernel
theorem dX3_trait_96 : decode cX3_trait 96 = .ok (.aload_n 0, 1) := by decide +kernel
theorem dX3_trait_97 : decode cX3_trait 97 = .ok (.aload_n 0, 1) := by decide +kernel
theorem dX3_trait_98 : decode cX3_trait 98 = .ok (.getfield 25, 3) := by decide +kernel
theorem dX3_trait_101 : decode cX3_trait 101 = .ok (.arraylength, 1) := by decide +kernel
theorem dX3_trait_102 : decode cX3_trait 102 = .ok (.invokevirtual 105, 3) := by decide +kernel
theorem dX3_trait_105 : decode cX3_trait 105 = .ok (.ireturn, 1) := by decide +kernel
theorem dX3_trait_106 : decode cX3_trait 106 = .ok (.aload_n 0, 1) := by decide +kernel
theorem dX3_trait_107 : decode cX3_trait 107 = .ok (.invokevirtual 96, 3) := by decide +kernel
theorem dX3_trait_110 : decode cX3_trait 110 = .ok (.ireturn, 1) := by decide +kernel
theorem dX3_trait_111 : decode cX3_trait 111 = .ok (.aload_n 0, 1) := by decide +kernel
theorem dX3_trait_112 : decode cX3_trait 112 = .ok (.getfield 33, 3) := by decide +kernel
theorem dX3_trait_115 : decode cX3_trait 115 = .ok (.ifnonnull 7, 3) := by decide +kernel
theorem dX3_trait_118 : decode cX3_trait 118 = .ok (.iconst 0, 1) := by decide +kernel
theorem dX3_trait_119 : decode cX3_trait 119 = .ok (.goto 4, 3) := by decide +kernel
theorem dX3_trait_122 : decode cX3_trait 122 = .ok (.iconst 1, 1) := by decide +kernel
theorem dX3_trait_123 : decode cX3_trait 123 = .ok (.ireturn, 1) := by decide +kernel
theorem dX3_trait_124 : decode cX3_trait 124 = .ok (.iconst (-1), 1) := by decide +kernel
theorem dX3_trait_125 : decode cX3_trait 125 = .ok (.ireturn, 1) := by decide +kernel
theorem dX4_init_0 : decode cX4_init 0 = .ok (.aload_n 0, 1) := by decide +kernel
theorem dX4_init_1 : decode cX4_init 1 = .ok (.invokespecial 3, 3) := by decide +kernel
theorem dX4_init_4 : decode cX4_init 4 = .ok (.aload_n 0, 1) := by decide +kernel
theorem dX4_init_5 : decode cX4_init 5 = .ok (.sipush 400, 3) := by decide +kernel
theorem dX4_init_8 : decode cX4_init 8 = .ok (.newarray .byte, 2) := by decide +kernel
theorem dX4_init_10 : decode cX4_init 10 = .ok (.putfield 11, 3) := by decide +kernel
theorem dX4_init_13 : decode cX4_init 13 = .ok (.aload_n 0, 1) := by decide +kernel
theorem dX4_init_14 : decode cX4_init 14 = .ok (.iconst 0, 1) := by decide +kernel
theorem dX4_init_15 : decode cX4_init 15 = .ok (.putfield 15, 3) := by decide +kernel
theorem dX4_init_18 : decode cX4_init 18 = .ok (.return_, 1) := by decide +kernel
theorem dX4_at_0 : decode cX4_at 0 = .ok (.iload_n 1, 1) := by decide +kernel
theorem dX4_at_1 : decode cX4_at 1 = .ok (.ifCond .lt 33, 3) := by decide +kernel
theorem dX4_at_4 : decode cX4_at 4 = .ok (.iload_n 1, 1) := by decide +kernel
theorem dX4_at_5 : decode cX4_at 5 = .ok (.aload_n 0, 1) := by decide +kernel
theorem dX4_at_6 : decode cX4_at 6 = .ok (.getfield 15, 3) := by decide +kernel
theorem dX4_at_9 : decode cX4_at 9 = .ok (.if_icmp .ge 25, 3) := by decide +kernel
theorem dX4_at_12 : decode cX4_at 12 = .ok (.iload_n 1, 1) := by decide +kernel
theorem dX4_at_13 : decode cX4_at 13 = .ok (.aload_n 0, 1) := by decide +kernel
theorem dX4_at_14 : decode cX4_at 14 = .ok (.getfield 11, 3) := by decide +kernel
theorem dX4_at_17 : decode cX4_at 17 = .ok (.arraylength, 1) := by decide +kernel
theorem dX4_at_18 : decode cX4_at 18 = .ok (.if_icmp .ge 16, 3) := by decide +kernel
theorem dX4_at_21 : decode cX4_at 21 = .ok (.aload_n 0, 1) := by decide +kernel
theorem dX4_at_22 : decode cX4_at 22 = .ok (.getfield 11, 3) := by decide +kernel
theorem dX4_at_25 : decode cX4_at 25 = .ok (.iload_n 1, 1) := by decide +kernel
theorem dX4_at_26 : decode cX4_at 26 = .ok (.baload, 1) := by decide +kernel
theorem dX4_at_27 : decode cX4_at 27 = .ok (.sipush 255, 3) := by decide +kernel
theorem dX4_at_30 : decode cX4_at 30 = .ok (.iand, 1) := by decide +kernel
theorem dX4_at_31 : decode cX4_at 31 = .ok (.goto 4, 3) := by decide +kernel
theorem dX4_at_34 : decode cX4_at 34 = .ok (.iconst (-1), 1) := by decide +kernel
theorem dX4_at_35 : decode cX4_at 35 = .ok (.ireturn, 1) := by decide +kernel
theorem dX4_addNumber_0 : decode cX4_addNumber 0 = .ok (.bipush 24, 2) := by decide +kernel
theorem dX4_addNumber_2 : decode cX4_addNumber 2 = .ok (.istore_n 2, 1) := by decide +kernel
theorem dX4_addNumber_3 : decode cX4_addNumber 3 = .ok (.iload_n 2, 1) := by decide +kernel
theorem dX4_addNumber_4 : decode cX4_addNumber 4 = .ok (.ifCond .lt 44, 3) := by decide +kernel
theorem dX4_addNumber_7 : decode cX4_addNumber 7 = .ok (.aload_n 0, 1) := by decide +kernel
theorem dX4_addNumber_8 : decode cX4_addNumber 8 = .ok (.getfield 15, 3) := by decide +kernel
theorem dX4_addNumber_11 : decode cX4_addNumber 11 = .ok (.aload_n 0, 1) := by decide +kernel
theorem dX4_addNumber_12 : decode cX4_addNumber 12 = .ok (.getfield 11, 3) := by decide +kernel
theorem dX4_addNumber_15 : decode cX4_addNumber 15 = .ok (.arraylength, 1) := by decide +kernel
theorem dX4_addNumber_16 : decode cX4_addNumber 16 = .ok (.if_icmp .ge 26, 3) := by decide +kernel
theorem dX4_addNumber_19 : decode cX4_addNumber 19 = .ok (.aload_n 0, 1) := by decide +kernel
theorem dX4_addNumber_20 : decode cX4_addNumber 20 = .ok (.getfield 11, 3) := by decide +kernel
theorem dX4_addNumber_23 : decode cX4_addNumber 23 = .ok (.aload_n 0, 1) := by decide +kernel
theorem dX4_addNumber_24 : decode cX4_addNumber 24 = .ok (.getfield 15, 3) := by decide +kernel
theorem dX4_addNumber_27 : decode cX4_addNumber 27 = .ok (.iload_n 1, 1) := by decide +kernel
theorem dX4_addNumber_28 : decode cX4_addNumber 28 = .ok (.iload_n 2, 1) := by decide +kernel
theorem dX4_addNumber_29 : decode cX4_addNumber 29 = .ok (.ishr, 1) := by decide +kernel
theorem dX4_addNumber_30 : decode cX4_addNumber 30 = .ok (.i2b, 1) := by decide +kernel
theorem dX4_addNumber_31 : decode cX4_addNumber 31 = .ok (.bastore, 1) := by decide +kernel
theorem dX4_addNumber_32 : decode cX4_addNumber 32 = .ok (.aload_n 0, 1) := by decide +kernel
theorem dX4_addNumber_33 : decode cX4_addNumber 33 = .ok (.dup, 1) := by decide +kernel
theorem dX4_addNumber_34 : decode cX4_addNumber 34 = .ok (.getfield 15, 3) := by decide +kernel
theorem dX4_addNumber_37 : decode cX4_addNumber 37 = .ok (.iconst 1, 1) := by decide +kernel
theorem dX4_addNumber_38 : decode cX4_addNumber 38 = .ok (.iadd, 1) := by decide +kernel
theorem dX4_addNumber_39 : decode cX4_addNumber 39 = .ok (.putfield 15, 3) := by decide +kernel
theorem dX4_addNumber_42 : decode cX4_addNumber 42 = .ok (.iinc 2 (-8), 3) := by decide +kernel
theorem dX4_addNumber_45 : decode cX4_addNumber 45 = .ok (.goto (-42), 3) := by decide +kernel
theorem dX4_addNumber_48 : decode cX4_addNumber 48 = .ok (.return_, 1) := by decide +kernel
theorem dX4_cut_0 : decode cX4_cut 0 = .ok (.iload_n 1, 1) := by decide +kernel
theorem dX4_cut_1 : decode cX4_cut 1 = .ok (.ifCond .lt 11, 3) := by decide +kernel
theorem dX4_cut_4 : decode cX4_cut 4 = .ok (.iload_n 1, 1) := by decide +kernel
theorem dX4_cut_5 : decode cX4_cut 5 = .ok (.aload_n 0, 1) := by decide +kernel
theorem dX4_cut_6 : decode cX4_cut 6 = .ok (.getfield 15, 3) := by decide +kernel
theorem dX4_cut_9 : decode cX4_cut 9 = .ok (.if_icmp .le 5, 3) := by decide +kernel
theorem dX4_cut_12 : decode cX4_cut 12 = .ok (.iconst 0, 1) := by decide +kernel
theorem dX4_cut_13 : decode cX4_cut 13 = .ok (.ireturn, 1) := by decide +kernel
theorem dX4_cut_14 : decode cX4_cut 14 = .ok (.aload_n 0, 1) := by decide +kernel
theorem dX4_cut_15 : decode cX4_cut 15 = .ok (.iload_n 1, 1) := by decide +kernel
theorem dX4_cut_16 : decode cX4_cut 16 = .ok (.putfield 15, 3) := by decide +kernel
theorem dX4_cut_19 : decode cX4_cut 19 = .ok (.iconst 1, 1) := by decide +kernel
theorem dX4_cut_20 : decode cX4_cut 20 = .ok (.ireturn, 1) := by decide +kernel
theorem dX4_become_0 : decode cX4_become 0 = .ok (.iload_n 2, 1) := by decide +kernel
theorem dX4_become_1 : decode cX4_become 1 = .ok (.ifCond .lt 34, 3) := by decide +kernel
theorem dX4_become_4 : decode cX4_become 4 = .ok (.iload_n 2, 1) := by decide +kernel
theorem dX4_become_5 : decode cX4_become 5 = .ok (.aload_n 1, 1) := by decide +kernel
theorem dX4_become_6 : decode cX4_become 6 = .ok (.arraylength, 1) := by decide +kernel
theorem dX4_become_7 : decode cX4_become 7 = .ok (.if_icmp .gt 28, 3) := by decide +kernel
theorem dX4_become_10 : decode cX4_become 10 = .ok (.iload_n 2, 1) := by decide +kernel
theorem dX4_become_11 : decode cX4_become 11 = .ok (.aload_n 0, 1) := by decide +kernel
theorem dX4_become_12 : decode cX4_become 12 = .ok (.getfield 11, 3) := by decide +kernel
theorem dX4_become_15 : decode cX4_become 15 = .ok (.arraylength, 1) := by decide +kernel
theorem dX4_become_16 : decode cX4_become 16 = .ok (.if_icmp .gt 19, 3) := by decide +kernel
theorem dX4_become_19 : decode cX4_become 19 = .ok (.aload_n 1, 1) := by decide +kernel
theorem dX4_become_20 : decode cX4_become 20 = .ok (.iconst 0, 1) := by decide +kernel
theorem dX4_become_21 : decode cX4_become 21 = .ok (.aload_n 0, 1) := by decide +kernel
theorem dX4_become_22 : decode cX4_become 22 = .ok (.getfield 11, 3) := by decide +kernel
theorem dX4_become_25 : decode cX4_become 25 = .ok (.iconst 0, 1) := by decide +kernel
theorem dX4_become_26 : decode cX4_become 26 = .ok (.iload_n 2, 1) := by decide +kernel
theorem dX4_become_27 : decode cX4_become 27 = .ok (.invokestatic 19, 3) := by decide +kernel
theorem dX4_become_30 : decode cX4_become 30 = .ok (.aload_n 0, 1) := by decide +kernel
theorem dX4_become_31 : decode cX4_become 31 = .ok (.iload_n 2, 1) := by decide +kernel
theorem dX4_become_32 : decode cX4_become 32 = .ok (.putfield 15, 3) := by decide +kernel
theorem dX4_become_35 : decode cX4_become 35 = .ok (.return_, 1) := by decide +kernel
theorem dX5_text_0 : decode cX5_text 0 = .ok (.iload_n 0, 1) := by decide +kernel
theorem dX5_text_1 : decode cX5_text 1 = .ok (.tableswitch 127 0 15 #[79, 82, 85, 88, 91, 94, 97, 100, 103, 106, 109, 112, 115, 118, 121, 124], 79) := by decide +kernel
theorem dX5_text_80 : decode cX5_text 80 = .ok (.ldc 7, 2) := by decide +kernel
theorem dX5_text_82 : decode cX5_text 82 = .ok (.areturn, 1) := by decide +kernel
theorem dX5_text_83 : decode cX5_text 83 = .ok (.ldc 9, 2) := by decide +kernel
theorem dX5_text_85 : decode cX5_text 85 = .ok (.areturn, 1) := by decide +kernel
theorem dX5_text_86 : decode cX5_text 86 = .ok (.ldc 11, 2) := by decide +kernel
theorem dX5_text_88 : decode cX5_text 88 = .ok (.areturn, 1) := by decide +kernel
theorem dX5_text_89 : decode cX5_text 89 = .ok (.ldc 13, 2) := by decide +kernel
theorem dX5_text_91 : decode cX5_text 91 = .ok (.areturn, 1) := by decide +kernel
theorem dX5_text_92 : decode cX5_text 92 = .ok (.ldc 15, 2) := by decide +kernel
theorem dX5_text_94 : decode cX5_text 94 = .ok (.areturn, 1) := by decide +kernel
theorem dX5_text_95 : decode cX5_text 95 = .ok (.ldc 17, 2) := by decide +kernel
theorem dX5_text_97 : decode cX5_text 97 = .ok (.areturn, 1) := by decide +kernel
theorem dX5_text_98 : decode cX5_text 98 = .ok (.ldc 19, 2) := by decide +kernel
theorem dX5_text_100 : decode cX5_text 100 = .ok (.areturn, 1) := by decide +kernel
theorem dX5_text_101 : decode cX5_text 101 = .ok (.ldc 21, 2) := by decide +kernel
theorem dX5_text_103 : decode cX5_text 103 = .ok (.areturn, 1) := by decide +kernel
theorem dX5_text_104 : decode cX5_text 104 = .ok (.ldc 23, 2) := by decide +kernel
theorem dX5_text_106 : decode cX5_text 106 = .ok (.areturn, 1) := by decide +kernel
theorem dX5_text_107 : decode cX5_text 107 = .ok (.ldc 25, 2) := by decide +kernel
theorem dX5_text_109 : decode cX5_text 109 = .ok (.areturn, 1) := by decide +kernel
theorem dX5_text_110 : decode cX5_text 110 = .ok (.ldc 27, 2) := by decide +kernel
theorem dX5_text_112 : decode cX5_text 112 = .ok (.areturn, 1) := by decide +kernel
theorem dX5_text_113 : decode cX5_text 113 = .ok (.ldc 29, 2) := by decide +kernel
theorem dX5_text_115 : decode cX5_text 115 = .ok (.areturn, 1) := by decide +kernel
theorem dX5_text_116 : decode cX5_text 116 = .ok (.ldc 31, 2) := by decide +kernel
theorem dX5_text_118 : decode cX5_text 118 = .ok (.areturn, 1) := by decide +kernel
theorem dX5_text_119 : decode cX5_text 119 = .ok (.ldc 33, 2) := by decide +kernel
theorem dX5_text_121 : decode cX5_text 121 = .ok (.areturn, 1) := by decide +kernel
theorem dX5_text_122 : decode cX5_text 122 = .ok (.ldc 35, 2) := by decide +kernel
theorem dX5_text_124 : decode cX5_text 124 = .ok (.areturn, 1) := by decide +kernel
theorem dX5_text_125 : decode cX5_text 125 = .ok (.ldc 37, 2) := by decide +kernel
theorem dX5_text_127 : decode cX5_text 127 = .ok (.areturn, 1) := by decide +kernel
theorem dX5_text_128 : decode cX5_text 128 = .ok (.ldc 39, 2) := by decide +kernel
theorem dX5_text_130 : decode cX5_text 130 = .ok (.areturn, 1) := by decide +kernel
theorem dX5_sign_0 : decode cX5_sign 0 = .ok (.iload_n 0, 1) := by decide +kernel
theorem dX5_sign_1 : decode cX5_sign 1 = .ok (.lookupswitch 55 #[(40, 43), (41, 46), (44, 49), (59, 52)], 43) := by decide +kernel
theorem dX5_sign_44 : decode cX5_sign 44 = .ok (.bipush 18, 2) := by decide +kernel
theorem dX5_sign_46 : decode cX5_sign 46 = .ok (.ireturn, 1) := by decide +kernel
theorem dX5_sign_47 : decode cX5_sign 47 = .ok (.bipush 19, 2) := by decide +kernel
theorem dX5_sign_49 : decode cX5_sign 49 = .ok (.ireturn, 1) := by decide +kernel
theorem dX5_sign_50 : decode cX5_sign 50 = .ok (.bipush 20, 2) := by decide +kernel
theorem dX5_sign_52 : decode cX5_sign 52 = .ok (.ireturn, 1) := by decide +kernel
theorem dX5_sign_53 : decode cX5_sign 53 = .ok (.bipush 21, 2) := by decide +kernel
theorem dX5_sign_55 : decode cX5_sign 55 = .ok (.ireturn, 1) := by decide +kernel
theorem dX5_sign_56 : decode cX5_sign 56 = .ok (.bipush 23, 2) := by decide +kernel
theorem dX5_sign_58 : decode cX5_sign 58 = .ok (.ireturn, 1) := by decide +kernel
theorem dX6_init_0 : decode cX6_init 0 = .ok (.aload_n 0, 1) := by decide +kernel
theorem dX6_init_1 : decode cX6_init 1 = .ok (.invokespecial 3, 3) := by decide +kernel
theorem dX6_init_4 : decode cX6_init 4 = .ok (.aload_n 0, 1) := by decide +kernel
theorem dX6_init_5 : decode cX6_init 5 = .ok (.sipush 400, 3) := by decide +kernel
theorem dX6_init_8 : decode cX6_init 8 = .ok (.newarray .int, 2) := by decide +kernel
theorem dX6_init_10 : decode cX6_init 10 = .ok (.putfield 11, 3) := by decide +kernel
theorem dX6_init_13 : decode cX6_init 13 = .ok (.aload_n 0, 1) := by decide +kernel
theorem dX6_init_14 : decode cX6_init 14 = .ok (.sipush 400, 3) := by decide +kernel
theorem dX6_init_17 : decode cX6_init 17 = .ok (.newarray .int, 2) := by decide +kernel
theorem dX6_init_19 : decode cX6_init 19 = .ok (.putfield 17, 3) := by decide +kernel
theorem dX6_init_22 : decode cX6_init 22 = .ok (.aload_n 0, 1) := by decide +kernel
theorem dX6_init_23 : decode cX6_init 23 = .ok (.sipush 400, 3) := by decide +kernel
theorem dX6_init_26 : decode cX6_init 26 = .ok (.newarray .int, 2) := by decide +kernel
theorem dX6_init_28 : decode cX6_init 28 = .ok (.putfield 20, 3) := by decide +kernel
theorem dX6_init_31 : decode cX6_init 31 = .ok (.aload_n 0, 1) := by decide +kernel
theorem dX6_init_32 : decode cX6_init 32 = .ok (.iconst 0, 1) := by decide +kernel
theorem dX6_init_33 : decode cX6_init 33 = .ok (.putfield 23, 3) := by decide +kernel
theorem dX6_init_36 : decode cX6_init 36 = .ok (.aload_n 0, 1) := by decide +kernel
theorem dX6_init_37 : decode cX6_init 37 = .ok (.iconst 0, 1) := by decide +kernel
theorem dX6_init_38 : decode cX6_init 38 = .ok (.putfield 27, 3) := by decide +kernel
theorem dX6_init_41 : decode cX6_init 41 = .ok (.aload_n 0, 1) := by decide +kernel
theorem dX6_init_42 : decode cX6_init 42 = .ok (.iconst 0, 1) := by decide +kernel
theorem dX6_init_43 : decode cX6_init 43 = .ok (.putfield 30, 3) := by decide +kernel
theorem dX6_init_46 : decode cX6_init 46 = .ok (.return_, 1) := by decide +kernel
theorem dX6_sees_0 : decode cX6_sees 0 = .ok (.aload_n 0, 1) := by decide +kernel
theorem dX6_sees_1 : decode cX6_sees 1 = .ok (.getfield 30, 3) := by decide +kernel
theorem dX6_sees_4 : decode cX6_sees 4 = .ok (.ifCond .lt 35, 3) := by decide +kernel
theorem dX6_sees_7 : decode cX6_sees 7 = .ok (.aload_n 0, 1) := by decide +kernel
theorem dX6_sees_8 : decode cX6_sees 8 = .ok (.getfield 30, 3) := by decide +kernel
theorem dX6_sees_11 : decode cX6_sees 11 = .ok (.aload_n 0, 1) := by decide +kernel
theorem dX6_sees_12 : decode cX6_sees 12 = .ok (.getfield 23, 3) := by decide +kernel
theorem dX6_sees_15 : decode cX6_sees 15 = .ok (.if_icmp .ge 24, 3) := by decide +kernel
theorem dX6_sees_18 : decode cX6_sees 18 = .ok (.aload_n 0, 1) := by decide +kernel
theorem dX6_sees_19 : decode cX6_sees 19 = .ok (.getfield 11, 3) := by decide +kernel
theorem dX6_sees_22 : decode cX6_sees 22 = .ok (.aload_n 0, 1) := by decide +kernel
theorem dX6_sees_23 : decode cX6_sees 23 = .ok (.getfield 30, 3) := by decide +kernel
theorem dX6_sees_26 : decode cX6_sees 26 = .ok (.iaload, 1) := by decide +kernel
theorem dX6_sees_27 : decode cX6_sees 27 = .ok (.iload_n 1, 1) := by decide +kernel
theorem dX6_sees_28 : decode cX6_sees 28 = .ok (.if_icmp .ne 7, 3) := by decide +kernel
theorem dX6_sees_31 : decode cX6_sees 31 = .ok (.iconst 1, 1) := by decide +kernel
theorem dX6_sees_32 : decode cX6_sees 32 = .ok (.goto 18, 3) := by decide +kernel
theorem dX6_sees_35 : decode cX6_sees 35 = .ok (.iconst 0, 1) := by decide +kernel
theorem dX6_sees_36 : decode cX6_sees 36 = .ok (.goto 14, 3) := by decide +kernel
theorem dX6_sees_39 : decode cX6_sees 39 = .ok (.iload_n 1, 1) := by decide +kernel
theorem dX6_sees_40 : decode cX6_sees 40 = .ok (.bipush 22, 2) := by decide +kernel
theorem dX6_sees_42 : decode cX6_sees 42 = .ok (.if_icmp .ne 7, 3) := by decide +kernel
theorem dX6_sees_45 : decode cX6_sees 45 = .ok (.iconst 1, 1) := by decide +kernel
theorem dX6_sees_46 : decode cX6_sees 46 = .ok (.goto 4, 3) := by decide +kernel
theorem dX6_sees_49 : decode cX6_sees 49 = .ok (.iconst 0, 1) := by decide +kernel
theorem dX6_sees_50 : decode cX6_sees 50 = .ok (.ireturn, 1) := by decide +kernel
theorem dX6_take_0 : decode cX6_take 0 = .ok (.aload_n 0, 1) := by decide +kernel
theorem dX6_take_1 : decode cX6_take 1 = .ok (.getfield 30, 3) := by decide +kernel
theorem dX6_take_4 : decode cX6_take 4 = .ok (.ifCond .lt 31, 3) := by decide +kernel
theorem dX6_take_7 : decode cX6_take 7 = .ok (.aload_n 0, 1) := by decide +kernel
theorem dX6_take_8 : decode cX6_take 8 = .ok (.getfield 30, 3) := by decide +kernel
theorem dX6_take_11 : decode cX6_take 11 = .ok (.aload_n 0, 1) := by decide +kernel
theorem dX6_take_12 : decode cX6_take 12 = .ok (.getfield 23, 3) := by decide +kernel
theorem dX6_take_15 : decode cX6_take 15 = .ok (.if_icmp .ge 20, 3) := by decide +kernel
theorem dX6_take_18 : decode cX6_take 18 = .ok (.aload_n 0, 1) := by decide +kernel
theorem dX6_take_19 : decode cX6_take 19 = .ok (.getfield 11, 3) := by decide +kernel
theorem dX6_take_22 : decode cX6_take 22 = .ok (.aload_n 0, 1) := by decide +kernel
theorem dX6_take_23 : decode cX6_take 23 = .ok (.getfield 30, 3) := by decide +kernel
theorem dX6_take_26 : decode cX6_take 26 = .ok (.iaload, 1) := by decide +kernel
theorem dX6_take_27 : decode cX6_take 27 = .ok (.iload_n 1, 1) := by decide +kernel
theorem dX6_take_28 : decode cX6_take 28 = .ok (.if_icmp .ne 7, 3) := by decide +kernel
theorem dX6_take_31 : decode cX6_take 31 = .ok (.iconst 1, 1) := by decide +kernel
theorem dX6_take_32 : decode cX6_take 32 = .ok (.goto 4, 3) := by decide +kernel
theorem dX6_take_35 : decode cX6_take 35 = .ok (.iconst 0, 1) := by decide +kernel
theorem dX6_take_36 : decode cX6_take 36 = .ok (.istore_n 2, 1) := by decide +kernel
theorem dX6_take_37 : decode cX6_take 37 = .ok (.iload_n 2, 1) := by decide +kernel
theorem dX6_take_38 : decode cX6_take 38 = .ok (.ifCond .eq 13, 3) := by decide +kernel
theorem dX6_take_41 : decode cX6_take 41 = .ok (.aload_n 0, 1) := by decide +kernel
theorem dX6_take_42 : decode cX6_take 42 = .ok (.dup, 1) := by decide +kernel
theorem dX6_take_43 : decode cX6_take 43 = .ok (.getfield 30, 3) := by decide +kernel
theorem dX6_take_46 : decode cX6_take 46 = .ok (.iconst 1, 1) := by decide +kernel
theorem dX6_take_47 : decode cX6_take 47 = .ok (.iadd, 1) := by decide +kernel
theorem dX6_take_48 : decode cX6_take 48 = .ok (.putfield 30, 3) := by decide +kernel
theorem dX6_take_51 : decode cX6_take 51 = .ok (.iload_n 2, 1) := by decide +kernel
theorem dX6_take_52 : decode cX6_take 52 = .ok (.ireturn, 1) := by decide +kernel
theorem dX6_takeNumber_0 : decode cX6_takeNumber 0 = .ok (.aload_n 0, 1) := by decide +kernel
theorem dX6_takeNumber_1 : decode cX6_takeNumber 1 = .ok (.invokevirtual 35, 3) := by decide +kernel
theorem dX6_takeNumber_4 : decode cX6_takeNumber 4 = .ok (.istore_n 3, 1) := by decide +kernel
theorem dX6_takeNumber_5 : decode cX6_takeNumber 5 = .ok (.iload_n 3, 1) := by decide +kernel
theorem dX6_takeNumber_6 : decode cX6_takeNumber 6 = .ok (.iload_n 1, 1) := by decide +kernel
theorem dX6_takeNumber_7 : decode cX6_takeNumber 7 = .ok (.if_icmp .lt 8, 3) := by decide +kernel
theorem dX6_takeNumber_10 : decode cX6_takeNumber 10 = .ok (.iload_n 3, 1) := by decide +kernel
theorem dX6_takeNumber_11 : decode cX6_takeNumber 11 = .ok (.iload_n 2, 1) := by decide +kernel
theorem dX6_takeNumber_12 : decode cX6_takeNumber 12 = .ok (.if_icmp .le 5, 3) := by decide +kernel
theorem dX6_takeNumber_15 : decode cX6_takeNumber 15 = .ok (.iconst (-1), 1) := by decide +kernel
theorem dX6_takeNumber_16 : decode cX6_takeNumber 16 = .ok (.ireturn, 1) := by decide +kernel
theorem dX6_takeNumber_17 : decode cX6_takeNumber 17 = .ok (.aload_n 0, 1) := by decide +kernel
theorem dX6_takeNumber_18 : decode cX6_takeNumber 18 = .ok (.dup, 1) := by decide +kernel
theorem dX6_takeNumber_19 : decode cX6_takeNumber 19 = .ok (.getfield 30, 3) := by decide +kernel
theorem dX6_takeNumber_22 : decode cX6_takeNumber 22 = .ok (.iconst 1, 1) := by decide +kernel
theorem dX6_takeNumber_23 : decode cX6_takeNumber 23 = .ok (.iadd, 1) := by decide +kernel
theorem dX6_takeNumber_24 : decode cX6_takeNumber 24 = .ok (.putfield 30, 3) := by decide +kernel
theorem dX6_takeNumber_27 : decode cX6_takeNumber 27 = .ok (.iload_n 3, 1) := by decide +kernel
theorem dX6_takeNumber_28 : decode cX6_takeNumber 28 = .ok (.ireturn, 1) := by decide +kernel
theorem dX6_value_0 : decode cX6_value 0 = .ok (.aload_n 0, 1) := by decide +kernel
theorem dX6_value_1 : decode cX6_value 1 = .ok (.getfield 30, 3) := by decide +kernel
theorem dX6_value_4 : decode cX6_value 4 = .ok (.ifCond .lt 26, 3) := by decide +kernel
theorem dX6_value_7 : decode cX6_value 7 = .ok (.aload_n 0, 1) := by decide +kernel
theorem dX6_value_8 : decode cX6_value 8 = .ok (.getfield 30, 3) := by decide +kernel
theorem dX6_value_11 : decode cX6_value 11 = .ok (.aload_n 0, 1) := by decide +kernel
theorem dX6_value_12 : decode cX6_value 12 = .ok (.getfield 23, 3) := by decide +kernel
theorem dX6_value_15 : decode cX6_value 15 = .ok (.if_icmp .ge 15, 3) := by decide +kernel
theorem dX6_value_18 : decode cX6_value 18 = .ok (.aload_n 0, 1) := by decide +kernel
theorem dX6_value_19 : decode cX6_value 19 = .ok (.getfield 20, 3) := by decide +kernel
theorem dX6_value_22 : decode cX6_value 22 = .ok (.aload_n 0, 1) := by decide +kernel
theorem dX6_value_23 : decode cX6_value 23 = .ok (.getfield 30, 3) := by decide +kernel
theorem dX6_value_26 : decode cX6_value 26 = .ok (.iaload, 1) := by decide +kernel
theorem dX6_value_27 : decode cX6_value 27 = .ok (.goto 4, 3) := by decide +kernel
theorem dX6_value_30 : decode cX6_value 30 = .ok (.iconst (-1), 1) := by decide +kernel
theorem dX6_value_31 : decode cX6_value 31 = .ok (.ireturn, 1) := by decide +kernel
theorem dX6_begin_0 : decode cX6_begin 0 = .ok (.aload_n 0, 1) := by decide +kernel
theorem dX6_begin_1 : decode cX6_begin 1 = .ok (.getfield 30, 3) := by decide +kernel
theorem dX6_begin_4 : decode cX6_begin 4 = .ok (.ifCond .lt 26, 3) := by decide +kernel
theorem dX6_begin_7 : decode cX6_begin 7 = .ok (.aload_n 0, 1) := by decide +kernel
theorem dX6_begin_8 : decode cX6_begin 8 = .ok (.getfield 30, 3) := by decide +kernel
theorem dX6_begin_11 : decode cX6_begin 11 = .ok (.aload_n 0, 1) := by decide +kernel
theorem dX6_begin_12 : decode cX6_begin 12 = .ok (.getfield 23, 3) := by decide +kernel
theorem dX6_begin_15 : decode cX6_begin 15 = .ok (.if_icmp .ge 15, 3) := by decide +kernel
theorem dX6_begin_18 : decode cX6_begin 18 = .ok (.aload_n 0, 1) := by decide +kernel
theorem dX6_begin_19 : decode cX6_begin 19 = .ok (.getfield 17, 3) := by decide +kernel
theorem dX6_begin_22 : decode cX6_begin 22 = .ok (.aload_n 0, 1) := by decide +kernel
theorem dX6_begin_23 : decode cX6_begin 23 = .ok (.getfield 30, 3) := by decide +kernel
theorem dX6_begin_26 : decode cX6_begin 26 = .ok (.iaload, 1) := by decide +kernel
theorem dX6_begin_27 : decode cX6_begin 27 = .ok (.goto 7, 3) := by decide +kernel
theorem dX6_begin_30 : decode cX6_begin 30 = .ok (.aload_n 0, 1) := by decide +kernel
theorem dX6_begin_31 : decode cX6_begin 31 = .ok (.getfield 27, 3) := by decide +kernel
theorem dX6_begin_34 : decode cX6_begin 34 = .ok (.ireturn, 1) := by decide +kernel
theorem dX6_split_0 : decode cX6_split 0 = .ok (.aload_n 0, 1) := by decide +kernel
theorem dX6_split_1 : decode cX6_split 1 = .ok (.iconst 0, 1) := by decide +kernel
theorem dX6_split_2 : decode cX6_split 2 = .ok (.putfield 23, 3) := by decide +kernel
theorem dX6_split_5 : decode cX6_split 5 = .ok (.aload_n 0, 1) := by decide +kernel
theorem dX6_split_6 : decode cX6_split 6 = .ok (.iconst 0, 1) := by decide +kernel
theorem dX6_split_7 : decode cX6_split 7 = .ok (.putfield 30, 3) := by decide +kernel
theorem dX6_split_10 : decode cX6_split 10 = .ok (.aload_n 0, 1) := by decide +kernel
theorem dX6_split_11 : decode cX6_split 11 = .ok (.aload_n 1, 1) := by decide +kernel
theorem dX6_split_12 : decode cX6_split 12 = .ok (.getfield 39, 3) := by decide +kernel
theorem dX6_split_15 : decode cX6_split 15 = .ok (.putfield 27, 3) := by decide +kernel
theorem dX6_split_18 : decode cX6_split 18 = .ok (.iconst 0, 1) := by decide +kernel
theorem dX6_split_19 : decode cX6_split 19 = .ok (.istore_n 2, 1) := by decide +kernel
theorem dX6_split_20 : decode cX6_split 20 = .ok (.iconst 0, 1) := by decide +kernel
theorem dX6_split_21 : decode cX6_split 21 = .ok (.istore_n 3, 1) := by decide +kernel
theorem dX6_split_22 : decode cX6_split 22 = .ok (.iload_n 3, 1) := by decide +kernel
theorem dX6_split_23 : decode cX6_split 23 = .ok (.sipush 400, 3) := by decide +kernel
theorem dX6_split_26 : decode cX6_split 26 = .ok (.if_icmp .ge 113, 3) := by decide +kernel
theorem dX6_split_29 : decode cX6_split 29 = .ok (.iload_n 2, 1) := by decide +kernel
theorem dX6_split_30 : decode cX6_split 30 = .ok (.aload_n 1, 1) := by decide +kernel
theorem dX6_split_31 : decode cX6_split 31 = .ok (.getfield 39, 3) := by decide +kernel
theorem dX6_split_34 : decode cX6_split 34 = .ok (.if_icmp .ge 105, 3) := by decide +kernel
theorem dX6_split_37 : decode cX6_split 37 = .ok (.aload_n 1, 1) := by decide +kernel
theorem dX6_split_38 : decode cX6_split 38 = .ok (.iload_n 2, 1) := by decide +kernel
theorem dX6_split_39 : decode cX6_split 39 = .ok (.invokevirtual 40, 3) := by decide +kernel
theorem dX6_split_42 : decode cX6_split 42 = .ok (.istore 4, 2) := by decide +kernel
theorem dX6_split_44 : decode cX6_split 44 = .ok (.iload_n 2, 1) := by decide +kernel
theorem dX6_split_45 : decode cX6_split 45 = .ok (.iconst 1, 1) := by decide +kernel
theorem dX6_split_46 : decode cX6_split 46 = .ok (.iadd, 1) := by decide +kernel
theorem dX6_split_47 : decode cX6_split 47 = .ok (.istore 5, 2) := by decide +kernel
theorem dX6_split_49 : decode cX6_split 49 = .ok (.iload 4, 2) := by decide +kernel
theorem dX6_split_51 : decode cX6_split 51 = .ok (.invokestatic 43, 3) := by decide +kernel
theorem dX6_split_54 : decode cX6_split 54 = .ok (.ifCond .eq 26, 3) := by decide +kernel
theorem dX6_split_57 : decode cX6_split 57 = .ok (.aload_n 1, 1) := by decide +kernel
theorem dX6_split_58 : decode cX6_split 58 = .ok (.iload_n 2, 1) := by decide +kernel
theorem dX6_split_59 : decode cX6_split 59 = .ok (.invokestatic 47, 3) := by decide +kernel
theorem dX6_split_62 : decode cX6_split 62 = .ok (.istore 5, 2) := by decide +kernel
theorem dX6_split_64 : decode cX6_split 64 = .ok (.aload_n 0, 1) := by decide +kernel
theorem dX6_split_65 : decode cX6_split 65 = .ok (.aload_n 1, 1) := by decide +kernel
theorem dX6_split_66 : decode cX6_split 66 = .ok (.iload_n 2, 1) := by decide +kernel
theorem dX6_split_67 : decode cX6_split 67 = .ok (.iload 5, 2) := by decide +kernel
theorem dX6_split_69 : decode cX6_split 69 = .ok (.invokestatic 51, 3) := by decide +kernel
theorem dX6_split_72 : decode cX6_split 72 = .ok (.iload_n 2, 1) := by decide +kernel
theorem dX6_split_73 : decode cX6_split 73 = .ok (.iconst (-1), 1) := by decide +kernel
theorem dX6_split_74 : decode cX6_split 74 = .ok (.invokevirtual 55, 3) := by decide +kernel
theorem dX6_split_77 : decode cX6_split 77 = .ok (.goto 53, 3) := by decide +kernel
theorem dX6_split_80 : decode cX6_split 80 = .ok (.iload 4, 2) := by decide +kernel
theorem dX6_split_82 : decode cX6_split 82 = .ok (.invokestatic 59, 3) := by decide +kernel
theorem dX6_split_85 : decode cX6_split 85 = .ok (.ifCond .eq 27, 3) := by decide +kernel
theorem dX6_split_88 : decode cX6_split 88 = .ok (.aload_n 1, 1) := by decide +kernel
theorem dX6_split_89 : decode cX6_split 89 = .ok (.iload_n 2, 1) := by decide +kernel
theorem dX6_split_90 : decode cX6_split 90 = .ok (.invokestatic 62, 3) := by decide +kernel
theorem dX6_split_93 : decode cX6_split 93 = .ok (.istore 5, 2) := by decide +kernel
theorem dX6_split_95 : decode cX6_split 95 = .ok (.aload_n 0, 1) := by decide +kernel
theorem dX6_split_96 : decode cX6_split 96 = .ok (.bipush 17, 2) := by decide +kernel
theorem dX6_split_98 : decode cX6_split 98 = .ok (.iload_n 2, 1) := by decide +kernel
theorem dX6_split_99 : decode cX6_split 99 = .ok (.aload_n 1, 1) := by decide +kernel
theorem dX6_split_100 : decode cX6_split 100 = .ok (.iload_n 2, 1) := by decide +kernel
theorem dX6_split_101 : decode cX6_split 101 = .ok (.iload 5, 2) := by decide +kernel
theorem dX6_split_103 : decode cX6_split 103 = .ok (.invokestatic 65, 3) := by decide +kernel
theorem dX6_split_106 : decode cX6_split 106 = .ok (.invokevirtual 55, 3) := by decide +kernel
theorem dX6_split_109 : decode cX6_split 109 = .ok (.goto 21, 3) := by decide +kernel
theorem dX6_split_112 : decode cX6_split 112 = .ok (.iload 4, 2) := by decide +kernel
theorem dX6_split_114 : decode cX6_split 114 = .ok (.bipush 32, 2) := by decide +kernel
theorem dX6_split_116 : decode cX6_split 116 = .ok (.if_icmp .eq 14, 3) := by decide +kernel
theorem dX6_split_119 : decode cX6_split 119 = .ok (.aload_n 0, 1) := by decide +kernel
theorem dX6_split_120 : decode cX6_split 120 = .ok (.iload 4, 2) := by decide +kernel
theorem dX6_split_122 : decode cX6_split 122 = .ok (.invokestatic 68, 3) := by decide +kernel
theorem dX6_split_125 : decode cX6_split 125 = .ok (.iload_n 2, 1) := by decide +kernel
theorem dX6_split_126 : decode cX6_split 126 = .ok (.iconst (-1), 1) := by decide +kernel
theorem dX6_split_127 : decode cX6_split 127 = .ok (.invokevirtual 55, 3) := by decide +kernel
theorem dX6_split_130 : decode cX6_split 130 = .ok (.iload 5, 2) := by decide +kernel
theorem dX6_split_132 : decode cX6_split 132 = .ok (.istore_n 2, 1) := by decide +kernel
theorem dX6_split_133 : decode cX6_split 133 = .ok (.iinc 3 1, 3) := by decide +kernel
theorem dX6_split_136 : decode cX6_split 136 = .ok (.goto (-114), 3) := by decide +kernel
theorem dX6_split_139 : decode cX6_split 139 = .ok (.return_, 1) := by decide +kernel
theorem dX6_add_0 : decode cX6_add 0 = .ok (.aload_n 0, 1) := by decide +kernel
theorem dX6_add_1 : decode cX6_add 1 = .ok (.getfield 23, 3) := by decide +kernel
theorem dX6_add_4 : decode cX6_add 4 = .ok (.aload_n 0, 1) := by decide +kernel
theorem dX6_add_5 : decode cX6_add 5 = .ok (.getfield 11, 3) := by decide +kernel
theorem dX6_add_8 : decode cX6_add 8 = .ok (.arraylength, 1) := by decide +kernel
theorem dX6_add_9 : decode cX6_add 9 = .ok (.if_icmp .ge 43, 3) := by decide +kernel
theorem dX6_add_12 : decode cX6_add 12 = .ok (.aload_n 0, 1) := by decide +kernel
theorem dX6_add_13 : decode cX6_add 13 = .ok (.getfield 11, 3) := by decide +kernel
theorem dX6_add_16 : decode cX6_add 16 = .ok (.aload_n 0, 1) := by decide +kernel
theorem dX6_add_17 : decode cX6_add 17 = .ok (.getfield 23, 3) := by decide +kernel
theorem dX6_add_20 : decode cX6_add 20 = .ok (.iload_n 1, 1) := by decide +kernel
theorem dX6_add_21 : decode cX6_add 21 = .ok (.iastore, 1) := by decide +kernel
theorem dX6_add_22 : decode cX6_add 22 = .ok (.aload_n 0, 1) := by decide +kernel
theorem dX6_add_23 : decode cX6_add 23 = .ok (.getfield 17, 3) := by decide +kernel
theorem dX6_add_26 : decode cX6_add 26 = .ok (.aload_n 0, 1) := by decide +kernel
theorem dX6_add_27 : decode cX6_add 27 = .ok (.getfield 23, 3) := by decide +kernel
theorem dX6_add_30 : decode cX6_add 30 = .ok (.iload_n 2, 1) := by decide +kernel
theorem dX6_add_31 : decode cX6_add 31 = .ok (.iastore, 1) := by decide +kernel
theorem dX6_add_32 : decode cX6_add 32 = .ok (.aload_n 0, 1) := by decide +kernel
theorem dX6_add_33 : decode cX6_add 33 = .ok (.getfield 20, 3) := by decide +kernel
theorem dX6_add_36 : decode cX6_add 36 = .ok (.aload_n 0, 1) := by decide +kernel
theorem dX6_add_37 : decode cX6_add 37 = .ok (.getfield 23, 3) := by decide +kernel
theorem dX6_add_40 : decode cX6_add 40 = .ok (.iload_n 3, 1) := by decide +kernel
theorem dX6_add_41 : decode cX6_add 41 = .ok (.iastore, 1) := by decide +kernel
theorem dX6_add_42 : decode cX6_add 42 = .ok (.aload_n 0, 1) := by decide +kernel
theorem dX6_add_43 : decode cX6_add 43 = .ok (.dup, 1) := by decide +kernel
theorem dX6_add_44 : decode cX6_add 44 = .ok (.getfield 23, 3) := by decide +kernel
theorem dX6_add_47 : decode cX6_add 47 = .ok (.iconst 1, 1) := by decide +kernel
theorem dX6_add_48 : decode cX6_add 48 = .ok (.iadd, 1) := by decide +kernel
theorem dX6_add_49 : decode cX6_add 49 = .ok (.putfield 23, 3) := by decide +kernel
theorem dX6_add_52 : decode cX6_add 52 = .ok (.return_, 1) := by decide +kernel
theorem dX6_wordEnd_0 : decode cX6_wordEnd 0 = .ok (.iload_n 1, 1) := by decide +kernel
theorem dX6_wordEnd_1 : decode cX6_wordEnd 1 = .ok (.iconst 1, 1) := by decide +kernel
theorem dX6_wordEnd_2 : decode cX6_wordEnd 2 = .ok (.iadd, 1) := by decide +kernel
theorem dX6_wordEnd_3 : decode cX6_wordEnd 3 = .ok (.istore_n 2, 1) := by decide +kernel
theorem dX6_wordEnd_4 : decode cX6_wordEnd 4 = .ok (.iload_n 2, 1) := by decide +kernel
theorem dX6_wordEnd_5 : decode cX6_wordEnd 5 = .ok (.aload_n 0, 1) := by decide +kernel
theorem dX6_wordEnd_6 : decode cX6_wordEnd 6 = .ok (.getfield 39, 3) := by decide +kernel
theorem dX6_wordEnd_9 : decode cX6_wordEnd 9 = .ok (.if_icmp .ge 20, 3) := by decide +kernel
theorem dX6_wordEnd_12 : decode cX6_wordEnd 12 = .ok (.aload_n 0, 1) := by decide +kernel
theorem dX6_wordEnd_13 : decode cX6_wordEnd 13 = .ok (.iload_n 2, 1) := by decide +kernel
theorem dX6_wordEnd_14 : decode cX6_wordEnd 14 = .ok (.invokevirtual 40, 3) := by decide +kernel
theorem dX6_wordEnd_17 : decode cX6_wordEnd 17 = .ok (.invokestatic 43, 3) := by decide +kernel
theorem dX6_wordEnd_20 : decode cX6_wordEnd 20 = .ok (.ifCond .eq 9, 3) := by decide +kernel
theorem dX6_wordEnd_23 : decode cX6_wordEnd 23 = .ok (.iinc 2 1, 3) := by decide +kernel
theorem dX6_wordEnd_26 : decode cX6_wordEnd 26 = .ok (.goto (-22), 3) := by decide +kernel
theorem dX6_wordEnd_29 : decode cX6_wordEnd 29 = .ok (.iload_n 2, 1) := by decide +kernel
theorem dX6_wordEnd_30 : decode cX6_wordEnd 30 = .ok (.ireturn, 1) := by decide +kernel
theorem dX6_wordIn_0 : decode cX6_wordIn 0 = .ok (.iconst 0, 1) := by decide +kernel
theorem dX6_wordIn_1 : decode cX6_wordIn 1 = .ok (.istore_n 3, 1) := by decide +kernel
theorem dX6_wordIn_2 : decode cX6_wordIn 2 = .ok (.iload_n 3, 1) := by decide +kernel
theorem dX6_wordIn_3 : decode cX6_wordIn 3 = .ok (.bipush 16, 2) := by decide +kernel
theorem dX6_wordIn_5 : decode cX6_wordIn 5 = .ok (.if_icmp .ge 24, 3) := by decide +kernel
theorem dX6_wordIn_8 : decode cX6_wordIn 8 = .ok (.iload_n 3, 1) := by decide +kernel
theorem dX6_wordIn_9 : decode cX6_wordIn 9 = .ok (.invokestatic 71, 3) := by decide +kernel
theorem dX6_wordIn_12 : decode cX6_wordIn 12 = .ok (.aload_n 0, 1) := by decide +kernel
theorem dX6_wordIn_13 : decode cX6_wordIn 13 = .ok (.iload_n 1, 1) := by decide +kernel
theorem dX6_wordIn_14 : decode cX6_wordIn 14 = .ok (.iload_n 2, 1) := by decide +kernel
theorem dX6_wordIn_15 : decode cX6_wordIn 15 = .ok (.invokestatic 75, 3) := by decide +kernel
theorem dX6_wordIn_18 : decode cX6_wordIn 18 = .ok (.ifCond .eq 5, 3) := by decide +kernel
theorem dX6_wordIn_21 : decode cX6_wordIn 21 = .ok (.iload_n 3, 1) := by decide +kernel
theorem dX6_wordIn_22 : decode cX6_wordIn 22 = .ok (.ireturn, 1) := by decide +kernel
theorem dX6_wordIn_23 : decode cX6_wordIn 23 = .ok (.iinc 3 1, 3) := by decide +kernel
theorem dX6_wordIn_26 : decode cX6_wordIn 26 = .ok (.goto (-24), 3) := by decide +kernel
theorem dX6_wordIn_29 : decode cX6_wordIn 29 = .ok (.bipush 23, 2) := by decide +kernel
theorem dX6_wordIn_31 : decode cX6_wordIn 31 = .ok (.ireturn, 1) := by decide +kernel
theorem dX6_stands_0 : decode cX6_stands 0 = .ok (.aload_n 0, 1) := by decide +kernel
theorem dX6_stands_1 : decode cX6_stands 1 = .ok (.invokevirtual 79, 3) := by decide +kernel
theorem dX6_stands_4 : decode cX6_stands 4 = .ok (.iload_n 3, 1) := by decide +kernel
theorem dX6_stands_5 : decode cX6_stands 5 = .ok (.iload_n 2, 1) := by decide +kernel
theorem dX6_stands_6 : decode cX6_stands 6 = .ok (.isub, 1) := by decide +kernel
theorem dX6_stands_7 : decode cX6_stands 7 = .ok (.if_icmp .eq 5, 3) := by decide +kernel
theorem dX6_stands_10 : decode cX6_stands 10 = .ok (.iconst 0, 1) := by decide +kernel
theorem dX6_stands_11 : decode cX6_stands 11 = .ok (.ireturn, 1) := by decide +kernel
theorem dX6_stands_12 : decode cX6_stands 12 = .ok (.iconst 0, 1) := by decide +kernel
theorem dX6_stands_13 : decode cX6_stands 13 = .ok (.istore 4, 2) := by decide +kernel
theorem dX6_stands_15 : decode cX6_stands 15 = .ok (.iload 4, 2) := by decide +kernel
theorem dX6_stands_17 : decode cX6_stands 17 = .ok (.aload_n 0, 1) := by decide +kernel
theorem dX6_stands_18 : decode cX6_stands 18 = .ok (.invokevirtual 79, 3) := by decide +kernel
theorem dX6_stands_21 : decode cX6_stands 21 = .ok (.if_icmp .ge 28, 3) := by decide +kernel
theorem dX6_stands_24 : decode cX6_stands 24 = .ok (.aload_n 0, 1) := by decide +kernel
theorem dX6_stands_25 : decode cX6_stands 25 = .ok (.iload 4, 2) := by decide +kernel
theorem dX6_stands_27 : decode cX6_stands 27 = .ok (.invokevirtual 84, 3) := by decide +kernel
theorem dX6_stands_30 : decode cX6_stands 30 = .ok (.aload_n 1, 1) := by decide +kernel
theorem dX6_stands_31 : decode cX6_stands 31 = .ok (.iload_n 2, 1) := by decide +kernel
theorem dX6_stands_32 : decode cX6_stands 32 = .ok (.iload 4, 2) := by decide +kernel
theorem dX6_stands_34 : decode cX6_stands 34 = .ok (.iadd, 1) := by decide +kernel
theorem dX6_stands_35 : decode cX6_stands 35 = .ok (.invokevirtual 40, 3) := by decide +kernel
theorem dX6_stands_38 : decode cX6_stands 38 = .ok (.if_icmp .eq 5, 3) := by decide +kernel
theorem dX6_stands_41 : decode cX6_stands 41 = .ok (.iconst 0, 1) := by decide +kernel
theorem dX6_stands_42 : decode cX6_stands 42 = .ok (.ireturn, 1) := by decide +kernel
theorem dX6_stands_43 : decode cX6_stands 43 = .ok (.iinc 4 1, 3) := by decide +kernel
theorem dX6_stands_46 : decode cX6_stands 46 = .ok (.goto (-31), 3) := by decide +kernel
theorem dX6_stands_49 : decode cX6_stands 49 = .ok (.iconst 1, 1) := by decide +kernel
theorem dX6_stands_50 : decode cX6_stands 50 = .ok (.ireturn, 1) := by decide +kernel
theorem dX6_numberEnd_0 : decode cX6_numberEnd 0 = .ok (.iload_n 1, 1) := by decide +kernel
theorem dX6_numberEnd_1 : decode cX6_numberEnd 1 = .ok (.iconst 1, 1) := by decide +kernel
theorem dX6_numberEnd_2 : decode cX6_numberEnd 2 = .ok (.iadd, 1) := by decide +kernel
theorem dX6_numberEnd_3 : decode cX6_numberEnd 3 = .ok (.istore_n 2, 1) := by decide +kernel
theorem dX6_numberEnd_4 : decode cX6_numberEnd 4 = .ok (.iload_n 2, 1) := by decide +kernel
theorem dX6_numberEnd_5 : decode cX6_numberEnd 5 = .ok (.aload_n 0, 1) := by decide +kernel
theorem dX6_numberEnd_6 : decode cX6_numberEnd 6 = .ok (.getfield 39, 3) := by decide +kernel
theorem dX6_numberEnd_9 : decode cX6_numberEnd 9 = .ok (.if_icmp .ge 20, 3) := by decide +kernel
theorem dX6_numberEnd_12 : decode cX6_numberEnd 12 = .ok (.aload_n 0, 1) := by decide +kernel
theorem dX6_numberEnd_13 : decode cX6_numberEnd 13 = .ok (.iload_n 2, 1) := by decide +kernel
theorem dX6_numberEnd_14 : decode cX6_numberEnd 14 = .ok (.invokevirtual 40, 3) := by decide +kernel
theorem dX6_numberEnd_17 : decode cX6_numberEnd 17 = .ok (.invokestatic 59, 3) := by decide +kernel
theorem dX6_numberEnd_20 : decode cX6_numberEnd 20 = .ok (.ifCond .eq 9, 3) := by decide +kernel
theorem dX6_numberEnd_23 : decode cX6_numberEnd 23 = .ok (.iinc 2 1, 3) := by decide +kernel
theorem dX6_numberEnd_26 : decode cX6_numberEnd 26 = .ok (.goto (-22), 3) := by decide +kernel
theorem dX6_numberEnd_29 : decode cX6_numberEnd 29 = .ok (.iload_n 2, 1) := by decide +kernel
theorem dX6_numberEnd_30 : decode cX6_numberEnd 30 = .ok (.ireturn, 1) := by decide +kernel
theorem dX6_numberIn_0 : decode cX6_numberIn 0 = .ok (.iload_n 2, 1) := by decide +kernel
theorem dX6_numberIn_1 : decode cX6_numberIn 1 = .ok (.iload_n 1, 1) := by decide +kernel
theorem dX6_numberIn_2 : decode cX6_numberIn 2 = .ok (.isub, 1) := by decide +kernel
theorem dX6_numberIn_3 : decode cX6_numberIn 3 = .ok (.iconst 3, 1) := by decide +kernel
theorem dX6_numberIn_4 : decode cX6_numberIn 4 = .ok (.if_icmp .le 5, 3) := by decide +kernel
theorem dX6_numberIn_7 : decode cX6_numberIn 7 = .ok (.iconst (-1), 1) := by decide +kernel
theorem dX6_numberIn_8 : decode cX6_numberIn 8 = .ok (.ireturn, 1) := by decide +kernel
theorem dX6_numberIn_9 : decode cX6_numberIn 9 = .ok (.iconst 0, 1) := by decide +kernel
theorem dX6_numberIn_10 : decode cX6_numberIn 10 = .ok (.istore_n 3, 1) := by decide +kernel
theorem dX6_numberIn_11 : decode cX6_numberIn 11 = .ok (.iload_n 1, 1) := by decide +kernel
theorem dX6_numberIn_12 : decode cX6_numberIn 12 = .ok (.istore 4, 2) := by decide +kernel
theorem dX6_numberIn_14 : decode cX6_numberIn 14 = .ok (.iload 4, 2) := by decide +kernel
theorem dX6_numberIn_16 : decode cX6_numberIn 16 = .ok (.iload_n 2, 1) := by decide +kernel
theorem dX6_numberIn_17 : decode cX6_numberIn 17 = .ok (.if_icmp .ge 24, 3) := by decide +kernel
theorem dX6_numberIn_20 : decode cX6_numberIn 20 = .ok (.bipush 10, 2) := by decide +kernel
theorem dX6_numberIn_22 : decode cX6_numberIn 22 = .ok (.iload_n 3, 1) := by decide +kernel
theorem dX6_numberIn_23 : decode cX6_numberIn 23 = .ok (.imul, 1) := by decide +kernel
theorem dX6_numberIn_24 : decode cX6_numberIn 24 = .ok (.aload_n 0, 1) := by decide +kernel
theorem dX6_numberIn_25 : decode cX6_numberIn 25 = .ok (.iload 4, 2) := by decide +kernel
theorem dX6_numberIn_27 : decode cX6_numberIn 27 = .ok (.invokevirtual 40, 3) := by decide +kernel
theorem dX6_numberIn_30 : decode cX6_numberIn 30 = .ok (.iadd, 1) := by decide +kernel
theorem dX6_numberIn_31 : decode cX6_numberIn 31 = .ok (.bipush 48, 2) := by decide +kernel
theorem dX6_numberIn_33 : decode cX6_numberIn 33 = .ok (.isub, 1) := by decide +kernel
theorem dX6_numberIn_34 : decode cX6_numberIn 34 = .ok (.istore_n 3, 1) := by decide +kernel
theorem dX6_numberIn_35 : decode cX6_numberIn 35 = .ok (.iinc 4 1, 3) := by decide +kernel
theorem dX6_numberIn_38 : decode cX6_numberIn 38 = .ok (.goto (-24), 3) := by decide +kernel
theorem dX6_numberIn_41 : decode cX6_numberIn 41 = .ok (.iload_n 3, 1) := by decide +kernel
theorem dX6_numberIn_42 : decode cX6_numberIn 42 = .ok (.ireturn, 1) := by decide +kernel
theorem dX6_isLetter_0 : decode cX6_isLetter 0 = .ok (.iload_n 0, 1) := by decide +kernel
theorem dX6_isLetter_1 : decode cX6_isLetter 1 = .ok (.bipush 97, 2) := by decide +kernel
theorem dX6_isLetter_3 : decode cX6_isLetter 3 = .ok (.if_icmp .lt 13, 3) := by decide +kernel
theorem dX6_isLetter_6 : decode cX6_isLetter 6 = .ok (.iload_n 0, 1) := by decide +kernel
theorem dX6_isLetter_7 : decode cX6_isLetter 7 = .ok (.bipush 122, 2) := by decide +kernel
theorem dX6_isLetter_9 : decode cX6_isLetter 9 = .ok (.if_icmp .gt 7, 3) := by decide +kernel
theorem dX6_isLetter_12 : decode cX6_isLetter 12 = .ok (.iconst 1, 1) := by decide +kernel
theorem dX6_isLetter_13 : decode cX6_isLetter 13 = .ok (.goto 4, 3) := by decide +kernel
theorem dX6_isLetter_16 : decode cX6_isLetter 16 = .ok (.iconst 0, 1) := by decide +kernel
theorem dX6_isLetter_17 : decode cX6_isLetter 17 = .ok (.ireturn, 1) := by decide +kernel
theorem dX6_isDigit_0 : decode cX6_isDigit 0 = .ok (.iload_n 0, 1) := by decide +kernel
theorem dX6_isDigit_1 : decode cX6_isDigit 1 = .ok (.bipush 48, 2) := by decide +kernel
theorem dX6_isDigit_3 : decode cX6_isDigit 3 = .ok (.if_icmp .lt 13, 3) := by decide +kernel
theorem dX6_isDigit_6 : decode cX6_isDigit 6 = .ok (.iload_n 0, 1) := by decide +kernel
theorem dX6_isDigit_7 : decode cX6_isDigit 7 = .ok (.bipush 57, 2) := by decide +kernel
theorem dX6_isDigit_9 : decode cX6_isDigit 9 = .ok (.if_icmp .gt 7, 3) := by decide +kernel
theorem dX6_isDigit_12 : decode cX6_isDigit 12 = .ok (.iconst 1, 1) := by decide +kernel
theorem dX6_isDigit_13 : decode cX6_isDigit 13 = .ok (.goto 4, 3) := by decide +kernel
theorem dX6_isDigit_16 : decode cX6_isDigit 16 = .ok (.iconst 0, 1) := by decide +kernel
theorem dX6_isDigit_17 : decode cX6_isDigit 17 = .ok (.ireturn, 1) := by decide +kernel
theorem dX7_init_0 : decode cX7_init 0 = .ok (.aload_n 0, 1) := by decide +kernel
theorem dX7_init_1 : decode cX7_init 1 = .ok (.invokespecial 3, 3) := by decide +kernel
theorem dX7_init_4 : decode cX7_init 4 = .ok (.aload_n 0, 1) := by decide +kernel
theorem dX7_init_5 : decode cX7_init 5 = .ok (.sipush 400, 3) := by decide +kernel
theorem dX7_init_8 : decode cX7_init 8 = .ok (.newarray .byte, 2) := by decide +kernel
theorem dX7_init_10 : decode cX7_init 10 = .ok (.putfield 11, 3) := by decide +kernel
theorem dX7_init_13 : decode cX7_init 13 = .ok (.aload_n 0, 1) := by decide +kernel
theorem dX7_init_14 : decode cX7_init 14 = .ok (.iconst 0, 1) := by decide +kernel
theorem dX7_init_15 : decode cX7_init 15 = .ok (.putfield 17, 3) := by decide +kernel
theorem dX7_init_18 : decode cX7_init 18 = .ok (.aload_n 0, 1) := by decide +kernel
theorem dX7_init_19 : decode cX7_init 19 = .ok (.iconst 0, 1) := by decide +kernel
theorem dX7_init_20 : decode cX7_init 20 = .ok (.putfield 21, 3) := by decide +kernel
theorem dX7_init_23 : decode cX7_init 23 = .ok (.return_, 1) := by decide +kernel
theorem dX7_writeLetter_0 : decode cX7_writeLetter 0 = .ok (.aload_n 0, 1) := by decide +kernel
theorem dX7_writeLetter_1 : decode cX7_writeLetter 1 = .ok (.iconst 0, 1) := by decide +kernel
theorem dX7_writeLetter_2 : decode cX7_writeLetter 2 = .ok (.putfield 17, 3) := by decide +kernel
theorem dX7_writeLetter_5 : decode cX7_writeLetter 5 = .ok (.aload_n 0, 1) := by decide +kernel
theorem dX7_writeLetter_6 : decode cX7_writeLetter 6 = .ok (.iconst 0, 1) := by decide +kernel
theorem dX7_writeLetter_7 : decode cX7_writeLetter 7 = .ok (.putfield 21, 3) := by decide +kernel
theorem dX7_writeLetter_10 : decode cX7_writeLetter 10 = .ok (.iconst 0, 1) := by decide +kernel
theorem dX7_writeLetter_11 : decode cX7_writeLetter 11 = .ok (.istore_n 2, 1) := by decide +kernel
theorem dX7_writeLetter_12 : decode cX7_writeLetter 12 = .ok (.iload_n 2, 1) := by decide +kernel
theorem dX7_writeLetter_13 : decode cX7_writeLetter 13 = .ok (.aload_n 1, 1) := by decide +kernel
theorem dX7_writeLetter_14 : decode cX7_writeLetter 14 = .ok (.invokevirtual 25, 3) := by decide +kernel
theorem dX7_writeLetter_17 : decode cX7_writeLetter 17 = .ok (.if_icmp .ge 28, 3) := by decide +kernel
theorem dX7_writeLetter_20 : decode cX7_writeLetter 20 = .ok (.iload_n 2, 1) := by decide +kernel
theorem dX7_writeLetter_21 : decode cX7_writeLetter 21 = .ok (.ifCond .le 9, 3) := by decide +kernel
theorem dX7_writeLetter_24 : decode cX7_writeLetter 24 = .ok (.aload_n 0, 1) := by decide +kernel
theorem dX7_writeLetter_25 : decode cX7_writeLetter 25 = .ok (.bipush 59, 2) := by decide +kernel
theorem dX7_writeLetter_27 : decode cX7_writeLetter 27 = .ok (.invokevirtual 30, 3) := by decide +kernel
theorem dX7_writeLetter_30 : decode cX7_writeLetter 30 = .ok (.aload_n 0, 1) := by decide +kernel
theorem dX7_writeLetter_31 : decode cX7_writeLetter 31 = .ok (.aload_n 1, 1) := by decide +kernel
theorem dX7_writeLetter_32 : decode cX7_writeLetter 32 = .ok (.iload_n 2, 1) := by decide +kernel
theorem dX7_writeLetter_33 : decode cX7_writeLetter 33 = .ok (.invokevirtual 34, 3) := by decide +kernel
theorem dX7_writeLetter_36 : decode cX7_writeLetter 36 = .ok (.invokevirtual 38, 3) := by decide +kernel
theorem dX7_writeLetter_39 : decode cX7_writeLetter 39 = .ok (.iinc 2 1, 3) := by decide +kernel
theorem dX7_writeLetter_42 : decode cX7_writeLetter 42 = .ok (.goto (-30), 3) := by decide +kernel
theorem dX7_writeLetter_45 : decode cX7_writeLetter 45 = .ok (.return_, 1) := by decide +kernel
theorem dX7_writeSentence_0 : decode cX7_writeSentence 0 = .ok (.aload_n 1, 1) := by decide +kernel
theorem dX7_writeSentence_1 : decode cX7_writeSentence 1 = .ok (.getfield 42, 3) := by decide +kernel
theorem dX7_writeSentence_4 : decode cX7_writeSentence 4 = .ok (.ifnull 24, 3) := by decide +kernel
theorem dX7_writeSentence_7 : decode cX7_writeSentence 7 = .ok (.aload_n 0, 1) := by decide +kernel
theorem dX7_writeSentence_8 : decode cX7_writeSentence 8 = .ok (.bipush 12, 2) := by decide +kernel
theorem dX7_writeSentence_10 : decode cX7_writeSentence 10 = .ok (.invokevirtual 50, 3) := by decide +kernel
theorem dX7_writeSentence_13 : decode cX7_writeSentence 13 = .ok (.aload_n 0, 1) := by decide +kernel
theorem dX7_writeSentence_14 : decode cX7_writeSentence 14 = .ok (.aload_n 1, 1) := by decide +kernel
theorem dX7_writeSentence_15 : decode cX7_writeSentence 15 = .ok (.getfield 42, 3) := by decide +kernel
theorem dX7_writeSentence_18 : decode cX7_writeSentence 18 = .ok (.iconst 0, 1) := by decide +kernel
theorem dX7_writeSentence_19 : decode cX7_writeSentence 19 = .ok (.invokevirtual 53, 3) := by decide +kernel
theorem dX7_writeSentence_22 : decode cX7_writeSentence 22 = .ok (.aload_n 0, 1) := by decide +kernel
theorem dX7_writeSentence_23 : decode cX7_writeSentence 23 = .ok (.bipush 44, 2) := by decide +kernel
theorem dX7_writeSentence_25 : decode cX7_writeSentence 25 = .ok (.invokevirtual 30, 3) := by decide +kernel
theorem dX7_writeSentence_28 : decode cX7_writeSentence 28 = .ok (.aload_n 1, 1) := by decide +kernel
theorem dX7_writeSentence_29 : decode cX7_writeSentence 29 = .ok (.getfield 57, 3) := by decide +kernel
theorem dX7_writeSentence_32 : decode cX7_writeSentence 32 = .ok (.ifCond .eq 30, 3) := by decide +kernel
theorem dX7_writeSentence_35 : decode cX7_writeSentence 35 = .ok (.aload_n 0, 1) := by decide +kernel
theorem dX7_writeSentence_36 : decode cX7_writeSentence 36 = .ok (.aload_n 1, 1) := by decide +kernel
theorem dX7_writeSentence_37 : decode cX7_writeSentence 37 = .ok (.getfield 60, 3) := by decide +kernel
theorem dX7_writeSentence_40 : decode cX7_writeSentence 40 = .ok (.invokevirtual 64, 3) := by decide +kernel
theorem dX7_writeSentence_43 : decode cX7_writeSentence 43 = .ok (.aload_n 0, 1) := by decide +kernel
theorem dX7_writeSentence_44 : decode cX7_writeSentence 44 = .ok (.aload_n 1, 1) := by decide +kernel
theorem dX7_writeSentence_45 : decode cX7_writeSentence 45 = .ok (.getfield 68, 3) := by decide +kernel
theorem dX7_writeSentence_48 : decode cX7_writeSentence 48 = .ok (.invokevirtual 71, 3) := by decide +kernel
theorem dX7_writeSentence_51 : decode cX7_writeSentence 51 = .ok (.aload_n 0, 1) := by decide +kernel
theorem dX7_writeSentence_52 : decode cX7_writeSentence 52 = .ok (.aload_n 1, 1) := by decide +kernel
theorem dX7_writeSentence_53 : decode cX7_writeSentence 53 = .ok (.getfield 74, 3) := by decide +kernel
theorem dX7_writeSentence_56 : decode cX7_writeSentence 56 = .ok (.invokevirtual 77, 3) := by decide +kernel
theorem dX7_writeSentence_59 : decode cX7_writeSentence 59 = .ok (.goto 27, 3) := by decide +kernel
theorem dX7_writeSentence_62 : decode cX7_writeSentence 62 = .ok (.aload_n 0, 1) := by decide +kernel
theorem dX7_writeSentence_63 : decode cX7_writeSentence 63 = .ok (.aload_n 1, 1) := by decide +kernel
theorem dX7_writeSentence_64 : decode cX7_writeSentence 64 = .ok (.getfield 74, 3) := by decide +kernel
theorem dX7_writeSentence_67 : decode cX7_writeSentence 67 = .ok (.invokevirtual 50, 3) := by decide +kernel
theorem dX7_writeSentence_70 : decode cX7_writeSentence 70 = .ok (.aload_n 0, 1) := by decide +kernel
theorem dX7_writeSentence_71 : decode cX7_writeSentence 71 = .ok (.aload_n 1, 1) := by decide +kernel
theorem dX7_writeSentence_72 : decode cX7_writeSentence 72 = .ok (.getfield 68, 3) := by decide +kernel
theorem dX7_writeSentence_75 : decode cX7_writeSentence 75 = .ok (.invokevirtual 71, 3) := by decide +kernel
theorem dX7_writeSentence_78 : decode cX7_writeSentence 78 = .ok (.aload_n 0, 1) := by decide +kernel
theorem dX7_writeSentence_79 : decode cX7_writeSentence 79 = .ok (.aload_n 1, 1) := by decide +kernel
theorem dX7_writeSentence_80 : decode cX7_writeSentence 80 = .ok (.getfield 60, 3) := by decide +kernel
theorem dX7_writeSentence_83 : decode cX7_writeSentence 83 = .ok (.invokevirtual 64, 3) := by decide +kernel
theorem dX7_writeSentence_86 : decode cX7_writeSentence 86 = .ok (.aload_n 1, 1) := by decide +kernel
theorem dX7_writeSentence_87 : decode cX7_writeSentence 87 = .ok (.getfield 80, 3) := by decide +kernel
theorem dX7_writeSentence_90 : decode cX7_writeSentence 90 = .ok (.ifnull 18, 3) := by decide +kernel
theorem dX7_writeSentence_93 : decode cX7_writeSentence 93 = .ok (.aload_n 0, 1) := by decide +kernel
theorem dX7_writeSentence_94 : decode cX7_writeSentence 94 = .ok (.bipush 13, 2) := by decide +kernel
theorem dX7_writeSentence_96 : decode cX7_writeSentence 96 = .ok (.invokevirtual 50, 3) := by decide +kernel
theorem dX7_writeSentence_99 : decode cX7_writeSentence 99 = .ok (.aload_n 0, 1) := by decide +kernel
theorem dX7_writeSentence_100 : decode cX7_writeSentence 100 = .ok (.aload_n 1, 1) := by decide +kernel
theorem dX7_writeSentence_101 : decode cX7_writeSentence 101 = .ok (.getfield 80, 3) := by decide +kernel
theorem dX7_writeSentence_104 : decode cX7_writeSentence 104 = .ok (.iconst 0, 1) := by decide +kernel
theorem dX7_writeSentence_105 : decode cX7_writeSentence 105 = .ok (.invokevirtual 53, 3) := by decide +kernel
theorem dX7_writeSentence_108 : decode cX7_writeSentence 108 = .ok (.aload_n 1, 1) := by decide +kernel
theorem dX7_writeSentence_109 : decode cX7_writeSentence 109 = .ok (.getfield 83, 3) := by decide +kernel
theorem dX7_writeSentence_112 : decode cX7_writeSentence 112 = .ok (.iconst (-1), 1) := by decide +kernel
theorem dX7_writeSentence_113 : decode cX7_writeSentence 113 = .ok (.if_icmp .eq 17, 3) := by decide +kernel
theorem dX7_writeSentence_116 : decode cX7_writeSentence 116 = .ok (.aload_n 0, 1) := by decide +kernel
theorem dX7_writeSentence_117 : decode cX7_writeSentence 117 = .ok (.bipush 14, 2) := by decide +kernel
theorem dX7_writeSentence_119 : decode cX7_writeSentence 119 = .ok (.invokevirtual 50, 3) := by decide +kernel
theorem dX7_writeSentence_122 : decode cX7_writeSentence 122 = .ok (.aload_n 0, 1) := by decide +kernel
theorem dX7_writeSentence_123 : decode cX7_writeSentence 123 = .ok (.aload_n 1, 1) := by decide +kernel
theorem dX7_writeSentence_124 : decode cX7_writeSentence 124 = .ok (.getfield 83, 3) := by decide +kernel
theorem dX7_writeSentence_127 : decode cX7_writeSentence 127 = .ok (.invokevirtual 86, 3) := by decide +kernel
theorem dX7_writeSentence_130 : decode cX7_writeSentence 130 = .ok (.return_, 1) := by decide +kernel
theorem dX7_writeDone_0 : decode cX7_writeDone 0 = .ok (.aload_n 0, 1) := by decide +kernel
theorem dX7_writeDone_1 : decode cX7_writeDone 1 = .ok (.bipush 9, 2) := by decide +kernel
theorem dX7_writeDone_3 : decode cX7_writeDone 3 = .ok (.invokevirtual 50, 3) := by decide +kernel
theorem dX7_writeDone_6 : decode cX7_writeDone 6 = .ok (.aload_n 0, 1) := by decide +kernel
theorem dX7_writeDone_7 : decode cX7_writeDone 7 = .ok (.bipush 10, 2) := by decide +kernel
theorem dX7_writeDone_9 : decode cX7_writeDone 9 = .ok (.invokevirtual 50, 3) := by decide +kernel
theorem dX7_writeDone_12 : decode cX7_writeDone 12 = .ok (.iload_n 1, 1) := by decide +kernel
theorem dX7_writeDone_13 : decode cX7_writeDone 13 = .ok (.iconst 3, 1) := by decide +kernel
theorem dX7_writeDone_14 : decode cX7_writeDone 14 = .ok (.if_icmp .eq 14, 3) := by decide +kernel
theorem dX7_writeDone_17 : decode cX7_writeDone 17 = .ok (.aload_n 0, 1) := by decide +kernel
theorem dX7_writeDone_18 : decode cX7_writeDone 18 = .ok (.bipush 11, 2) := by decide +kernel
theorem dX7_writeDone_20 : decode cX7_writeDone 20 = .ok (.invokevirtual 50, 3) := by decide +kernel
theorem dX7_writeDone_23 : decode cX7_writeDone 23 = .ok (.aload_n 0, 1) := by decide +kernel
theorem dX7_writeDone_24 : decode cX7_writeDone 24 = .ok (.iload_n 1, 1) := by decide +kernel
theorem dX7_writeDone_25 : decode cX7_writeDone 25 = .ok (.invokevirtual 50, 3) := by decide +kernel
theorem dX7_writeDone_28 : decode cX7_writeDone 28 = .ok (.return_, 1) := by decide +kernel
theorem dX7_writeMode_0 : decode cX7_writeMode 0 = .ok (.aload_n 0, 1) := by decide +kernel
theorem dX7_writeMode_1 : decode cX7_writeMode 1 = .ok (.iload_n 1, 1) := by decide +kernel
theorem dX7_writeMode_2 : decode cX7_writeMode 2 = .ok (.iconst 2, 1) := by decide +kernel
theorem dX7_writeMode_3 : decode cX7_writeMode 3 = .ok (.if_icmp .ne 7, 3) := by decide +kernel
theorem dX7_writeMode_6 : decode cX7_writeMode 6 = .ok (.iconst 5, 1) := by decide +kernel
theorem dX7_writeMode_7 : decode cX7_writeMode 7 = .ok (.goto 4, 3) := by decide +kernel
theorem dX7_writeMode_10 : decode cX7_writeMode 10 = .ok (.iconst 3, 1) := by decide +kernel
theorem dX7_writeMode_11 : decode cX7_writeMode 11 = .ok (.invokevirtual 50, 3) := by decide +kernel
theorem dX7_writeMode_14 : decode cX7_writeMode 14 = .ok (.iload_n 1, 1) := by decide +kernel
theorem dX7_writeMode_15 : decode cX7_writeMode 15 = .ok (.iconst 1, 1) := by decide +kernel
theorem dX7_writeMode_16 : decode cX7_writeMode 16 = .ok (.if_icmp .ne 8, 3) := by decide +kernel
theorem dX7_writeMode_19 : decode cX7_writeMode 19 = .ok (.aload_n 0, 1) := by decide +kernel
theorem dX7_writeMode_20 : decode cX7_writeMode 20 = .ok (.iconst 4, 1) := by decide +kernel
theorem dX7_writeMode_21 : decode cX7_writeMode 21 = .ok (.invokevirtual 50, 3) := by decide +kernel
theorem dX7_writeMode_24 : decode cX7_writeMode 24 = .ok (.return_, 1) := by decide +kernel
theorem dX7_writeActs_0 : decode cX7_writeActs 0 = .ok (.iconst 0, 1) := by decide +kernel
theorem dX7_writeActs_1 : decode cX7_writeActs 1 = .ok (.istore_n 2, 1) := by decide +kernel
theorem dX7_writeActs_2 : decode cX7_writeActs 2 = .ok (.iload_n 2, 1) := by decide +kernel
theorem dX7_writeActs_3 : decode cX7_writeActs 3 = .ok (.aload_n 1, 1) := by decide +kernel
theorem dX7_writeActs_4 : decode cX7_writeActs 4 = .ok (.arraylength, 1) := by decide +kernel
theorem dX7_writeActs_5 : decode cX7_writeActs 5 = .ok (.if_icmp .ge 32, 3) := by decide +kernel
theorem dX7_writeActs_8 : decode cX7_writeActs 8 = .ok (.iload_n 2, 1) := by decide +kernel
theorem dX7_writeActs_9 : decode cX7_writeActs 9 = .ok (.ifCond .le 9, 3) := by decide +kernel
theorem dX7_writeActs_12 : decode cX7_writeActs 12 = .ok (.aload_n 0, 1) := by decide +kernel
theorem dX7_writeActs_13 : decode cX7_writeActs 13 = .ok (.bipush 7, 2) := by decide +kernel
theorem dX7_writeActs_15 : decode cX7_writeActs 15 = .ok (.invokevirtual 50, 3) := by decide +kernel
theorem dX7_writeActs_18 : decode cX7_writeActs 18 = .ok (.aload_n 0, 1) := by decide +kernel
theorem dX7_writeActs_19 : decode cX7_writeActs 19 = .ok (.bipush 6, 2) := by decide +kernel
theorem dX7_writeActs_21 : decode cX7_writeActs 21 = .ok (.invokevirtual 50, 3) := by decide +kernel
theorem dX7_writeActs_24 : decode cX7_writeActs 24 = .ok (.aload_n 0, 1) := by decide +kernel
theorem dX7_writeActs_25 : decode cX7_writeActs 25 = .ok (.aload_n 1, 1) := by decide +kernel
theorem dX7_writeActs_26 : decode cX7_writeActs 26 = .ok (.iload_n 2, 1) := by decide +kernel
theorem dX7_writeActs_27 : decode cX7_writeActs 27 = .ok (.iaload, 1) := by decide +kernel
theorem dX7_writeActs_28 : decode cX7_writeActs 28 = .ok (.invokevirtual 86, 3) := by decide +kernel
theorem dX7_writeActs_31 : decode cX7_writeActs 31 = .ok (.iinc 2 1, 3) := by decide +kernel
theorem dX7_writeActs_34 : decode cX7_writeActs 34 = .ok (.goto (-32), 3) := by decide +kernel
theorem dX7_writeActs_37 : decode cX7_writeActs 37 = .ok (.return_, 1) := by decide +kernel
theorem dX7_writeCond_0 : decode cX7_writeCond 0 = .ok (.iload_n 2, 1) := by decide +kernel
theorem dX7_writeCond_1 : decode cX7_writeCond 1 = .ok (.bipush 40, 2) := by decide +kernel
theorem dX7_writeCond_3 : decode cX7_writeCond 3 = .ok (.if_icmp .le 4, 3) := by decide +kernel
theorem dX7_writeCond_6 : decode cX7_writeCond 6 = .ok (.return_, 1) := by decide +kernel
theorem dX7_writeCond_7 : decode cX7_writeCond 7 = .ok (.aload_n 1, 1) := by decide +kernel
theorem dX7_writeCond_8 : decode cX7_writeCond 8 = .ok (.getfield 89, 3) := by decide +kernel
theorem dX7_writeCond_11 : decode cX7_writeCond 11 = .ok (.iconst 3, 1) := by decide +kernel
theorem dX7_writeCond_12 : decode cX7_writeCond 12 = .ok (.if_icmp .ne 20, 3) := by decide +kernel
theorem dX7_writeCond_15 : decode cX7_writeCond 15 = .ok (.aload_n 0, 1) := by decide +kernel
theorem dX7_writeCond_16 : decode cX7_writeCond 16 = .ok (.bipush 15, 2) := by decide +kernel
theorem dX7_writeCond_18 : decode cX7_writeCond 18 = .ok (.invokevirtual 50, 3) := by decide +kernel
theorem dX7_writeCond_21 : decode cX7_writeCond 21 = .ok (.aload_n 0, 1) := by decide +kernel
theorem dX7_writeCond_22 : decode cX7_writeCond 22 = .ok (.aload_n 1, 1) := by decide +kernel
theorem dX7_writeCond_23 : decode cX7_writeCond 23 = .ok (.getfield 94, 3) := by decide +kernel
theorem dX7_writeCond_26 : decode cX7_writeCond 26 = .ok (.invokevirtual 86, 3) := by decide +kernel
theorem dX7_writeCond_29 : decode cX7_writeCond 29 = .ok (.goto 16, 3) := by decide +kernel
theorem dX7_writeCond_32 : decode cX7_writeCond 32 = .ok (.aload_n 1, 1) := by decide +kernel
theorem dX7_writeCond_33 : decode cX7_writeCond 33 = .ok (.getfield 89, 3) := by decide +kernel
theorem dX7_writeCond_36 : decode cX7_writeCond 36 = .ok (.iconst 2, 1) := by decide +kernel
theorem dX7_writeCond_37 : decode cX7_writeCond 37 = .ok (.if_icmp .ne 8, 3) := by decide +kernel
theorem dX7_writeCond_40 : decode cX7_writeCond 40 = .ok (.aload_n 0, 1) := by decide +kernel
theorem dX7_writeCond_41 : decode cX7_writeCond 41 = .ok (.iconst 4, 1) := by decide +kernel
theorem dX7_writeCond_42 : decode cX7_writeCond 42 = .ok (.invokevirtual 50, 3) := by decide +kernel
theorem dX7_writeCond_45 : decode cX7_writeCond 45 = .ok (.iconst 0, 1) := by decide +kernel
theorem dX7_writeCond_46 : decode cX7_writeCond 46 = .ok (.istore_n 3, 1) := by decide +kernel
theorem dX7_writeCond_47 : decode cX7_writeCond 47 = .ok (.iload_n 3, 1) := by decide +kernel
theorem dX7_writeCond_48 : decode cX7_writeCond 48 = .ok (.aload_n 1, 1) := by decide +kernel
theorem dX7_writeCond_49 : decode cX7_writeCond 49 = .ok (.getfield 97, 3) := by decide +kernel
theorem dX7_writeCond_52 : decode cX7_writeCond 52 = .ok (.arraylength, 1) := by decide +kernel
theorem dX7_writeCond_53 : decode cX7_writeCond 53 = .ok (.if_icmp .ge 47, 3) := by decide +kernel
theorem dX7_writeCond_56 : decode cX7_writeCond 56 = .ok (.iload_n 3, 1) := by decide +kernel
theorem dX7_writeCond_57 : decode cX7_writeCond 57 = .ok (.ifCond .le 22, 3) := by decide +kernel
theorem dX7_writeCond_60 : decode cX7_writeCond 60 = .ok (.aload_n 0, 1) := by decide +kernel
theorem dX7_writeCond_61 : decode cX7_writeCond 61 = .ok (.aload_n 1, 1) := by decide +kernel
theorem dX7_writeCond_62 : decode cX7_writeCond 62 = .ok (.getfield 89, 3) := by decide +kernel
theorem dX7_writeCond_65 : decode cX7_writeCond 65 = .ok (.iconst 1, 1) := by decide +kernel
theorem dX7_writeCond_66 : decode cX7_writeCond 66 = .ok (.if_icmp .ne 8, 3) := by decide +kernel
theorem dX7_writeCond_69 : decode cX7_writeCond 69 = .ok (.bipush 7, 2) := by decide +kernel
theorem dX7_writeCond_71 : decode cX7_writeCond 71 = .ok (.goto 5, 3) := by decide +kernel
theorem dX7_writeCond_74 : decode cX7_writeCond 74 = .ok (.bipush 8, 2) := by decide +kernel
theorem dX7_writeCond_76 : decode cX7_writeCond 76 = .ok (.invokevirtual 50, 3) := by decide +kernel
theorem dX7_writeCond_79 : decode cX7_writeCond 79 = .ok (.aload_n 0, 1) := by decide +kernel
theorem dX7_writeCond_80 : decode cX7_writeCond 80 = .ok (.aload_n 1, 1) := by decide +kernel
theorem dX7_writeCond_81 : decode cX7_writeCond 81 = .ok (.getfield 97, 3) := by decide +kernel
theorem dX7_writeCond_84 : decode cX7_writeCond 84 = .ok (.iload_n 3, 1) := by decide +kernel
theorem dX7_writeCond_85 : decode cX7_writeCond 85 = .ok (.aaload, 1) := by decide +kernel
theorem dX7_writeCond_86 : decode cX7_writeCond 86 = .ok (.aload_n 1, 1) := by decide +kernel
theorem dX7_writeCond_87 : decode cX7_writeCond 87 = .ok (.getfield 89, 3) := by decide +kernel
theorem dX7_writeCond_90 : decode cX7_writeCond 90 = .ok (.iload_n 2, 1) := by decide +kernel
theorem dX7_writeCond_91 : decode cX7_writeCond 91 = .ok (.invokevirtual 101, 3) := by decide +kernel
theorem dX7_writeCond_94 : decode cX7_writeCond 94 = .ok (.iinc 3 1, 3) := by decide +kernel
theorem dX7_writeCond_97 : decode cX7_writeCond 97 = .ok (.goto (-50), 3) := by decide +kernel
theorem dX7_writeCond_100 : decode cX7_writeCond 100 = .ok (.return_, 1) := by decide +kernel
theorem dX7_writePiece_0 : decode cX7_writePiece 0 = .ok (.aload_n 1, 1) := by decide +kernel
theorem dX7_writePiece_1 : decode cX7_writePiece 1 = .ok (.getfield 89, 3) := by decide +kernel
theorem dX7_writePiece_4 : decode cX7_writePiece 4 = .ok (.iload_n 2, 1) := by decide +kernel
theorem dX7_writePiece_5 : decode cX7_writePiece 5 = .ok (.if_icmp .ge 7, 3) := by decide +kernel
theorem dX7_writePiece_8 : decode cX7_writePiece 8 = .ok (.iconst 1, 1) := by decide +kernel
theorem dX7_writePiece_9 : decode cX7_writePiece 9 = .ok (.goto 4, 3) := by decide +kernel
theorem dX7_writePiece_12 : decode cX7_writePiece 12 = .ok (.iconst 0, 1) := by decide +kernel
theorem dX7_writePiece_13 : decode cX7_writePiece 13 = .ok (.istore 4, 2) := by decide +kernel
theorem dX7_writePiece_15 : decode cX7_writePiece 15 = .ok (.iload 4, 2) := by decide +kernel
theorem dX7_writePiece_17 : decode cX7_writePiece 17 = .ok (.ifCond .eq 18, 3) := by decide +kernel
theorem dX7_writePiece_20 : decode cX7_writePiece 20 = .ok (.aload_n 0, 1) := by decide +kernel
theorem dX7_writePiece_21 : decode cX7_writePiece 21 = .ok (.invokevirtual 105, 3) := by decide +kernel
theorem dX7_writePiece_24 : decode cX7_writePiece 24 = .ok (.aload_n 0, 1) := by decide +kernel
theorem dX7_writePiece_25 : decode cX7_writePiece 25 = .ok (.bipush 40, 2) := by decide +kernel
theorem dX7_writePiece_27 : decode cX7_writePiece 27 = .ok (.invokevirtual 30, 3) := by decide +kernel
theorem dX7_writePiece_30 : decode cX7_writePiece 30 = .ok (.aload_n 0, 1) := by decide +kernel
theorem dX7_writePiece_31 : decode cX7_writePiece 31 = .ok (.iconst 1, 1) := by decide +kernel
theorem dX7_writePiece_32 : decode cX7_writePiece 32 = .ok (.putfield 21, 3) := by decide +kernel
theorem dX7_writePiece_35 : decode cX7_writePiece 35 = .ok (.aload_n 0, 1) := by decide +kernel
theorem dX7_writePiece_36 : decode cX7_writePiece 36 = .ok (.aload_n 1, 1) := by decide +kernel
theorem dX7_writePiece_37 : decode cX7_writePiece 37 = .ok (.iload_n 3, 1) := by decide +kernel
theorem dX7_writePiece_38 : decode cX7_writePiece 38 = .ok (.iconst 1, 1) := by decide +kernel
theorem dX7_writePiece_39 : decode cX7_writePiece 39 = .ok (.iadd, 1) := by decide +kernel
theorem dX7_writePiece_40 : decode cX7_writePiece 40 = .ok (.invokevirtual 53, 3) := by decide +kernel
theorem dX7_writePiece_43 : decode cX7_writePiece 43 = .ok (.iload 4, 2) := by decide +kernel
theorem dX7_writePiece_45 : decode cX7_writePiece 45 = .ok (.ifCond .eq 9, 3) := by decide +kernel
theorem dX7_writePiece_48 : decode cX7_writePiece 48 = .ok (.aload_n 0, 1) := by decide +kernel
theorem dX7_writePiece_49 : decode cX7_writePiece 49 = .ok (.bipush 41, 2) := by decide +kernel
theorem dX7_writePiece_51 : decode cX7_writePiece 51 = .ok (.invokevirtual 30, 3) := by decide +kernel
theorem dX7_writePiece_54 : decode cX7_writePiece 54 = .ok (.return_, 1) := by decide +kernel
theorem dX7_writeWord_0 : decode cX7_writeWord 0 = .ok (.aload_n 0, 1) := by decide +kernel
theorem dX7_writeWord_1 : decode cX7_writeWord 1 = .ok (.invokevirtual 105, 3) := by decide +kernel
theorem dX7_writeWord_4 : decode cX7_writeWord 4 = .ok (.iload_n 1, 1) := by decide +kernel
theorem dX7_writeWord_5 : decode cX7_writeWord 5 = .ok (.invokestatic 108, 3) := by decide +kernel
theorem dX7_writeWord_8 : decode cX7_writeWord 8 = .ok (.astore_n 2, 1) := by decide +kernel
theorem dX7_writeWord_9 : decode cX7_writeWord 9 = .ok (.iconst 0, 1) := by decide +kernel
theorem dX7_writeWord_10 : decode cX7_writeWord 10 = .ok (.istore_n 3, 1) := by decide +kernel
theorem dX7_writeWord_11 : decode cX7_writeWord 11 = .ok (.iload_n 3, 1) := by decide +kernel
theorem dX7_writeWord_12 : decode cX7_writeWord 12 = .ok (.aload_n 2, 1) := by decide +kernel
theorem dX7_writeWord_13 : decode cX7_writeWord 13 = .ok (.invokevirtual 112, 3) := by decide +kernel
theorem dX7_writeWord_16 : decode cX7_writeWord 16 = .ok (.if_icmp .ge 18, 3) := by decide +kernel
theorem dX7_writeWord_19 : decode cX7_writeWord 19 = .ok (.aload_n 0, 1) := by decide +kernel
theorem dX7_writeWord_20 : decode cX7_writeWord 20 = .ok (.aload_n 2, 1) := by decide +kernel
theorem dX7_writeWord_21 : decode cX7_writeWord 21 = .ok (.iload_n 3, 1) := by decide +kernel
theorem dX7_writeWord_22 : decode cX7_writeWord 22 = .ok (.invokevirtual 117, 3) := by decide +kernel
theorem dX7_writeWord_25 : decode cX7_writeWord 25 = .ok (.invokevirtual 30, 3) := by decide +kernel
theorem dX7_writeWord_28 : decode cX7_writeWord 28 = .ok (.iinc 3 1, 3) := by decide +kernel
theorem dX7_writeWord_31 : decode cX7_writeWord 31 = .ok (.goto (-20), 3) := by decide +kernel
theorem dX7_writeWord_34 : decode cX7_writeWord 34 = .ok (.return_, 1) := by decide +kernel
theorem dX7_writeNumber_0 : decode cX7_writeNumber 0 = .ok (.aload_n 0, 1) := by decide +kernel
theorem dX7_writeNumber_1 : decode cX7_writeNumber 1 = .ok (.invokevirtual 105, 3) := by decide +kernel
theorem dX7_writeNumber_4 : decode cX7_writeNumber 4 = .ok (.iload_n 1, 1) := by decide +kernel
theorem dX7_writeNumber_5 : decode cX7_writeNumber 5 = .ok (.bipush 100, 2) := by decide +kernel
theorem dX7_writeNumber_7 : decode cX7_writeNumber 7 = .ok (.if_icmp .lt 14, 3) := by decide +kernel
theorem dX7_writeNumber_10 : decode cX7_writeNumber 10 = .ok (.aload_n 0, 1) := by decide +kernel
theorem dX7_writeNumber_11 : decode cX7_writeNumber 11 = .ok (.bipush 48, 2) := by decide +kernel
theorem dX7_writeNumber_13 : decode cX7_writeNumber 13 = .ok (.iload_n 1, 1) := by decide +kernel
theorem dX7_writeNumber_14 : decode cX7_writeNumber 14 = .ok (.bipush 100, 2) := by decide +kernel
theorem dX7_writeNumber_16 : decode cX7_writeNumber 16 = .ok (.idiv, 1) := by decide +kernel
theorem dX7_writeNumber_17 : decode cX7_writeNumber 17 = .ok (.iadd, 1) := by decide +kernel
theorem dX7_writeNumber_18 : decode cX7_writeNumber 18 = .ok (.invokevirtual 30, 3) := by decide +kernel
theorem dX7_writeNumber_21 : decode cX7_writeNumber 21 = .ok (.iload_n 1, 1) := by decide +kernel
theorem dX7_writeNumber_22 : decode cX7_writeNumber 22 = .ok (.bipush 10, 2) := by decide +kernel
theorem dX7_writeNumber_24 : decode cX7_writeNumber 24 = .ok (.if_icmp .lt 17, 3) := by decide +kernel
theorem dX7_writeNumber_27 : decode cX7_writeNumber 27 = .ok (.aload_n 0, 1) := by decide +kernel
theorem dX7_writeNumber_28 : decode cX7_writeNumber 28 = .ok (.bipush 48, 2) := by decide +kernel
theorem dX7_writeNumber_30 : decode cX7_writeNumber 30 = .ok (.iload_n 1, 1) := by decide +kernel
theorem dX7_writeNumber_31 : decode cX7_writeNumber 31 = .ok (.bipush 10, 2) := by decide +kernel
theorem dX7_writeNumber_33 : decode cX7_writeNumber 33 = .ok (.idiv, 1) := by decide +kernel
theorem dX7_writeNumber_34 : decode cX7_writeNumber 34 = .ok (.bipush 10, 2) := by decide +kernel
theorem dX7_writeNumber_36 : decode cX7_writeNumber 36 = .ok (.irem, 1) := by decide +kernel
theorem dX7_writeNumber_37 : decode cX7_writeNumber 37 = .ok (.iadd, 1) := by decide +kernel
theorem dX7_writeNumber_38 : decode cX7_writeNumber 38 = .ok (.invokevirtual 30, 3) := by decide +kernel
theorem dX7_writeNumber_41 : decode cX7_writeNumber 41 = .ok (.aload_n 0, 1) := by decide +kernel
theorem dX7_writeNumber_42 : decode cX7_writeNumber 42 = .ok (.bipush 48, 2) := by decide +kernel
theorem dX7_writeNumber_44 : decode cX7_writeNumber 44 = .ok (.iload_n 1, 1) := by decide +kernel
theorem dX7_writeNumber_45 : decode cX7_writeNumber 45 = .ok (.bipush 10, 2) := by decide +kernel
theorem dX7_writeNumber_47 : decode cX7_writeNumber 47 = .ok (.irem, 1) := by decide +kernel
theorem dX7_writeNumber_48 : decode cX7_writeNumber 48 = .ok (.iadd, 1) := by decide +kernel
theorem dX7_writeNumber_49 : decode cX7_writeNumber 49 = .ok (.invokevirtual 30, 3) := by decide +kernel
theorem dX7_writeNumber_52 : decode cX7_writeNumber 52 = .ok (.return_, 1) := by decide +kernel
theorem dX7_blank_0 : decode cX7_blank 0 = .ok (.aload_n 0, 1) := by decide +kernel
theorem dX7_blank_1 : decode cX7_blank 1 = .ok (.getfield 17, 3) := by decide +kernel
theorem dX7_blank_4 : decode cX7_blank 4 = .ok (.ifCond .le 16, 3) := by decide +kernel
theorem dX7_blank_7 : decode cX7_blank 7 = .ok (.aload_n 0, 1) := by decide +kernel
theorem dX7_blank_8 : decode cX7_blank 8 = .ok (.getfield 21, 3) := by decide +kernel
theorem dX7_blank_11 : decode cX7_blank 11 = .ok (.ifCond .ne 9, 3) := by decide +kernel
theorem dX7_blank_14 : decode cX7_blank 14 = .ok (.aload_n 0, 1) := by decide +kernel
theorem dX7_blank_15 : decode cX7_blank 15 = .ok (.bipush 32, 2) := by decide +kernel
theorem dX7_blank_17 : decode cX7_blank 17 = .ok (.invokevirtual 30, 3) := by decide +kernel
theorem dX7_blank_20 : decode cX7_blank 20 = .ok (.aload_n 0, 1) := by decide +kernel
theorem dX7_blank_21 : decode cX7_blank 21 = .ok (.iconst 0, 1) := by decide +kernel
theorem dX7_blank_22 : decode cX7_blank 22 = .ok (.putfield 21, 3) := by decide +kernel
theorem dX7_blank_25 : decode cX7_blank 25 = .ok (.return_, 1) := by decide +kernel
theorem dX7_put_0 : decode cX7_put 0 = .ok (.aload_n 0, 1) := by decide +kernel
theorem dX7_put_1 : decode cX7_put 1 = .ok (.getfield 17, 3) := by decide +kernel
theorem dX7_put_4 : decode cX7_put 4 = .ok (.aload_n 0, 1) := by decide +kernel
theorem dX7_put_5 : decode cX7_put 5 = .ok (.getfield 11, 3) := by decide +kernel
theorem dX7_put_8 : decode cX7_put 8 = .ok (.arraylength, 1) := by decide +kernel
theorem dX7_put_9 : decode cX7_put 9 = .ok (.if_icmp .ge 14, 3) := by decide +kernel
theorem dX7_put_12 : decode cX7_put 12 = .ok (.aload_n 0, 1) := by decide +kernel
theorem dX7_put_13 : decode cX7_put 13 = .ok (.getfield 11, 3) := by decide +kernel
theorem dX7_put_16 : decode cX7_put 16 = .ok (.aload_n 0, 1) := by decide +kernel
theorem dX7_put_17 : decode cX7_put 17 = .ok (.getfield 17, 3) := by decide +kernel
theorem dX7_put_20 : decode cX7_put 20 = .ok (.iload_n 1, 1) := by decide +kernel
theorem dX7_put_21 : decode cX7_put 21 = .ok (.i2b, 1) := by decide +kernel
theorem dX7_put_22 : decode cX7_put 22 = .ok (.bastore, 1) := by decide +kernel
theorem dX7_put_23 : decode cX7_put 23 = .ok (.aload_n 0, 1) := by decide +kernel
theorem dX7_put_24 : decode cX7_put 24 = .ok (.dup, 1) := by decide +kernel
theorem dX7_put_25 : decode cX7_put 25 = .ok (.getfield 17, 3) := by decide +kernel
theorem dX7_put_28 : decode cX7_put 28 = .ok (.iconst 1, 1) := by decide +kernel
theorem dX7_put_29 : decode cX7_put 29 = .ok (.iadd, 1) := by decide +kernel
theorem dX7_put_30 : decode cX7_put 30 = .ok (.putfield 17, 3) := by decide +kernel
theorem dX7_put_33 : decode cX7_put 33 = .ok (.return_, 1) := by decide +kernel
theorem dX8_init_0 : decode cX8_init 0 = .ok (.aload_n 0, 1) := by decide +kernel
theorem dX8_init_1 : decode cX8_init 1 = .ok (.invokespecial 1, 3) := by decide +kernel
theorem dX8_init_4 : decode cX8_init 4 = .ok (.aload_n 0, 1) := by decide +kernel
theorem dX8_init_5 : decode cX8_init 5 = .ok (.new 7, 3) := by decide +kernel
theorem dX8_init_8 : decode cX8_init 8 = .ok (.dup, 1) := by decide +kernel
theorem dX8_init_9 : decode cX8_init 9 = .ok (.invokespecial 9, 3) := by decide +kernel
theorem dX8_init_12 : decode cX8_init 12 = .ok (.putfield 10, 3) := by decide +kernel
theorem dX8_init_15 : decode cX8_init 15 = .ok (.aload_n 0, 1) := by decide +kernel
theorem dX8_init_16 : decode cX8_init 16 = .ok (.new 16, 3) := by decide +kernel
theorem dX8_init_19 : decode cX8_init 19 = .ok (.dup, 1) := by decide +kernel
theorem dX8_init_20 : decode cX8_init 20 = .ok (.invokespecial 18, 3) := by decide +kernel
theorem dX8_init_23 : decode cX8_init 23 = .ok (.putfield 19, 3) := by decide +kernel
theorem dX8_init_26 : decode cX8_init 26 = .ok (.aload_n 0, 1) := by decide +kernel
theorem dX8_init_27 : decode cX8_init 27 = .ok (.new 23, 3) := by decide +kernel
theorem dX8_init_30 : decode cX8_init 30 = .ok (.dup, 1) := by decide +kernel
theorem dX8_init_31 : decode cX8_init 31 = .ok (.invokespecial 25, 3) := by decide +kernel
theorem dX8_init_34 : decode cX8_init 34 = .ok (.putfield 26, 3) := by decide +kernel
theorem dX8_init_37 : decode cX8_init 37 = .ok (.aload_n 0, 1) := by decide +kernel
theorem dX8_init_38 : decode cX8_init 38 = .ok (.new 30, 3) := by decide +kernel
theorem dX8_init_41 : decode cX8_init 41 = .ok (.dup, 1) := by decide +kernel
theorem dX8_init_42 : decode cX8_init 42 = .ok (.invokespecial 32, 3) := by decide +kernel
theorem dX8_init_45 : decode cX8_init 45 = .ok (.putfield 33, 3) := by decide +kernel
theorem dX8_init_48 : decode cX8_init 48 = .ok (.aload_n 0, 1) := by decide +kernel
theorem dX8_init_49 : decode cX8_init 49 = .ok (.new 30, 3) := by decide +kernel
theorem dX8_init_52 : decode cX8_init 52 = .ok (.dup, 1) := by decide +kernel
theorem dX8_init_53 : decode cX8_init 53 = .ok (.invokespecial 32, 3) := by decide +kernel
theorem dX8_init_56 : decode cX8_init 56 = .ok (.putfield 37, 3) := by decide +kernel
theorem dX8_init_59 : decode cX8_init 59 = .ok (.aload_n 0, 1) := by decide +kernel
theorem dX8_init_60 : decode cX8_init 60 = .ok (.iconst (-1), 1) := by decide +kernel
theorem dX8_init_61 : decode cX8_init 61 = .ok (.putfield 40, 3) := by decide +kernel
theorem dX8_init_64 : decode cX8_init 64 = .ok (.aload_n 0, 1) := by decide +kernel
theorem dX8_init_65 : decode cX8_init 65 = .ok (.iconst 0, 1) := by decide +kernel
theorem dX8_init_66 : decode cX8_init 66 = .ok (.putfield 44, 3) := by decide +kernel
theorem dX8_init_69 : decode cX8_init 69 = .ok (.aload_n 0, 1) := by decide +kernel
theorem dX8_init_70 : decode cX8_init 70 = .ok (.iconst 0, 1) := by decide +kernel
theorem dX8_init_71 : decode cX8_init 71 = .ok (.putfield 47, 3) := by decide +kernel
theorem dX8_init_74 : decode cX8_init 74 = .ok (.return_, 1) := by decide +kernel
theorem dX8_feed_0 : decode cX8_feed 0 = .ok (.aload_n 0, 1) := by decide +kernel
theorem dX8_feed_1 : decode cX8_feed 1 = .ok (.getfield 10, 3) := by decide +kernel
theorem dX8_feed_4 : decode cX8_feed 4 = .ok (.getfield 50, 3) := by decide +kernel
theorem dX8_feed_7 : decode cX8_feed 7 = .ok (.bipush 20, 2) := by decide +kernel
theorem dX8_feed_9 : decode cX8_feed 9 = .ok (.iadd, 1) := by decide +kernel
theorem dX8_feed_10 : decode cX8_feed 10 = .ok (.sipush 400, 3) := by decide +kernel
theorem dX8_feed_13 : decode cX8_feed 13 = .ok (.if_icmp .le 5, 3) := by decide +kernel
theorem dX8_feed_16 : decode cX8_feed 16 = .ok (.iconst (-1), 1) := by decide +kernel
theorem dX8_feed_17 : decode cX8_feed 17 = .ok (.ireturn, 1) := by decide +kernel
theorem dX8_feed_18 : decode cX8_feed 18 = .ok (.aload_n 0, 1) := by decide +kernel
theorem dX8_feed_19 : decode cX8_feed 19 = .ok (.getfield 10, 3) := by decide +kernel
theorem dX8_feed_22 : decode cX8_feed 22 = .ok (.iload_n 1, 1) := by decide +kernel
theorem dX8_feed_23 : decode cX8_feed 23 = .ok (.invokevirtual 53, 3) := by decide +kernel
theorem dX8_feed_26 : decode cX8_feed 26 = .ok (.aload_n 0, 1) := by decide +kernel
theorem dX8_feed_27 : decode cX8_feed 27 = .ok (.getfield 10, 3) := by decide +kernel
theorem dX8_feed_30 : decode cX8_feed 30 = .ok (.iload_n 2, 1) := by decide +kernel
theorem dX8_feed_31 : decode cX8_feed 31 = .ok (.invokevirtual 53, 3) := by decide +kernel
theorem dX8_feed_34 : decode cX8_feed 34 = .ok (.aload_n 0, 1) := by decide +kernel
theorem dX8_feed_35 : decode cX8_feed 35 = .ok (.getfield 10, 3) := by decide +kernel
theorem dX8_feed_38 : decode cX8_feed 38 = .ok (.iload_n 3, 1) := by decide +kernel
theorem dX8_feed_39 : decode cX8_feed 39 = .ok (.invokevirtual 53, 3) := by decide +kernel
theorem dX8_feed_42 : decode cX8_feed 42 = .ok (.aload_n 0, 1) := by decide +kernel
theorem dX8_feed_43 : decode cX8_feed 43 = .ok (.getfield 10, 3) := by decide +kernel
theorem dX8_feed_46 : decode cX8_feed 46 = .ok (.iload 4, 2) := by decide +kernel
theorem dX8_feed_48 : decode cX8_feed 48 = .ok (.invokevirtual 53, 3) := by decide +kernel
theorem dX8_feed_51 : decode cX8_feed 51 = .ok (.aload_n 0, 1) := by decide +kernel
theorem dX8_feed_52 : decode cX8_feed 52 = .ok (.getfield 10, 3) := by decide +kernel
theorem dX8_feed_55 : decode cX8_feed 55 = .ok (.iload 5, 2) := by decide +kernel
theorem dX8_feed_57 : decode cX8_feed 57 = .ok (.invokevirtual 53, 3) := by decide +kernel
theorem dX8_feed_60 : decode cX8_feed 60 = .ok (.aload_n 0, 1) := by decide +kernel
theorem dX8_feed_61 : decode cX8_feed 61 = .ok (.getfield 10, 3) := by decide +kernel
theorem dX8_feed_64 : decode cX8_feed 64 = .ok (.getfield 50, 3) := by decide +kernel
theorem dX8_feed_67 : decode cX8_feed 67 = .ok (.ireturn, 1) := by decide +kernel
theorem dX8_end_0 : decode cX8_end 0 = .ok (.aload_n 0, 1) := by decide +kernel
theorem dX8_end_1 : decode cX8_end 1 = .ok (.getfield 10, 3) := by decide +kernel
theorem dX8_end_4 : decode cX8_end 4 = .ok (.iload_n 1, 1) := by decide +kernel
theorem dX8_end_5 : decode cX8_end 5 = .ok (.invokevirtual 57, 3) := by decide +kernel
theorem dX8_end_8 : decode cX8_end 8 = .ok (.ireturn, 1) := by decide +kernel
theorem dX8_letter_0 : decode cX8_letter 0 = .ok (.aload_n 0, 1) := by decide +kernel
theorem dX8_letter_1 : decode cX8_letter 1 = .ok (.getfield 19, 3) := by decide +kernel
theorem dX8_letter_4 : decode cX8_letter 4 = .ok (.aload_n 0, 1) := by decide +kernel
theorem dX8_letter_5 : decode cX8_letter 5 = .ok (.getfield 10, 3) := by decide +kernel
theorem dX8_letter_8 : decode cX8_letter 8 = .ok (.invokevirtual 61, 3) := by decide +kernel
theorem dX8_letter_11 : decode cX8_letter 11 = .ok (.istore_n 1, 1) := by decide +kernel
theorem dX8_letter_12 : decode cX8_letter 12 = .ok (.aload_n 0, 1) := by decide +kernel
theorem dX8_letter_13 : decode cX8_letter 13 = .ok (.getfield 10, 3) := by decide +kernel
theorem dX8_letter_16 : decode cX8_letter 16 = .ok (.iconst 0, 1) := by decide +kernel
theorem dX8_letter_17 : decode cX8_letter 17 = .ok (.invokevirtual 57, 3) := by decide +kernel
theorem dX8_letter_20 : decode cX8_letter 20 = .ok (.pop, 1) := by decide +kernel
theorem dX8_letter_21 : decode cX8_letter 21 = .ok (.aload_n 0, 1) := by decide +kernel
theorem dX8_letter_22 : decode cX8_letter 22 = .ok (.iload_n 1, 1) := by decide +kernel
theorem dX8_letter_23 : decode cX8_letter 23 = .ok (.ifCond .eq 7, 3) := by decide +kernel
theorem dX8_letter_26 : decode cX8_letter 26 = .ok (.iconst (-1), 1) := by decide +kernel
theorem dX8_letter_27 : decode cX8_letter 27 = .ok (.goto 10, 3) := by decide +kernel
theorem dX8_letter_30 : decode cX8_letter 30 = .ok (.aload_n 0, 1) := by decide +kernel
theorem dX8_letter_31 : decode cX8_letter 31 = .ok (.getfield 19, 3) := by decide +kernel
theorem dX8_letter_34 : decode cX8_letter 34 = .ok (.invokevirtual 65, 3) := by decide +kernel
theorem dX8_letter_37 : decode cX8_letter 37 = .ok (.putfield 40, 3) := by decide +kernel
theorem dX8_letter_40 : decode cX8_letter 40 = .ok (.iload_n 1, 1) := by decide +kernel
theorem dX8_letter_41 : decode cX8_letter 41 = .ok (.ifCond .ne 13, 3) := by decide +kernel
theorem dX8_letter_44 : decode cX8_letter 44 = .ok (.new 69, 3) := by decide +kernel
theorem dX8_letter_47 : decode cX8_letter 47 = .ok (.dup, 1) := by decide +kernel
theorem dX8_letter_48 : decode cX8_letter 48 = .ok (.ldc 71, 2) := by decide +kernel
theorem dX8_letter_50 : decode cX8_letter 50 = .ok (.invokespecial 73, 3) := by decide +kernel
theorem dX8_letter_53 : decode cX8_letter 53 = .ok (.athrow, 1) := by decide +kernel
theorem dX8_letter_54 : decode cX8_letter 54 = .ok (.aload_n 0, 1) := by decide +kernel
theorem dX8_letter_55 : decode cX8_letter 55 = .ok (.getfield 33, 3) := by decide +kernel
theorem dX8_letter_58 : decode cX8_letter 58 = .ok (.aload_n 0, 1) := by decide +kernel
theorem dX8_letter_59 : decode cX8_letter 59 = .ok (.getfield 19, 3) := by decide +kernel
theorem dX8_letter_62 : decode cX8_letter 62 = .ok (.getfield 76, 3) := by decide +kernel
theorem dX8_letter_65 : decode cX8_letter 65 = .ok (.invokevirtual 79, 3) := by decide +kernel
theorem dX8_letter_68 : decode cX8_letter 68 = .ok (.aload_n 0, 1) := by decide +kernel
theorem dX8_letter_69 : decode cX8_letter 69 = .ok (.getfield 37, 3) := by decide +kernel
theorem dX8_letter_72 : decode cX8_letter 72 = .ok (.aload_n 0, 1) := by decide +kernel
theorem dX8_letter_73 : decode cX8_letter 73 = .ok (.getfield 19, 3) := by decide +kernel
theorem dX8_letter_76 : decode cX8_letter 76 = .ok (.getfield 76, 3) := by decide +kernel
theorem dX8_letter_79 : decode cX8_letter 79 = .ok (.invokevirtual 79, 3) := by decide +kernel
theorem dX8_letter_82 : decode cX8_letter 82 = .ok (.aload_n 0, 1) := by decide +kernel
theorem dX8_letter_83 : decode cX8_letter 83 = .ok (.dup, 1) := by decide +kernel
theorem dX8_letter_84 : decode cX8_letter 84 = .ok (.getfield 44, 3) := by decide +kernel
theorem dX8_letter_87 : decode cX8_letter 87 = .ok (.iconst 1, 1) := by decide +kernel
theorem dX8_letter_88 : decode cX8_letter 88 = .ok (.iadd, 1) := by decide +kernel
theorem dX8_letter_89 : decode cX8_letter 89 = .ok (.putfield 44, 3) := by decide +kernel
theorem dX8_letter_92 : decode cX8_letter 92 = .ok (.aload_n 0, 1) := by decide +kernel
theorem dX8_letter_93 : decode cX8_letter 93 = .ok (.iconst 0, 1) := by decide +kernel
theorem dX8_letter_94 : decode cX8_letter 94 = .ok (.putfield 47, 3) := by decide +kernel
theorem dX8_letter_97 : decode cX8_letter 97 = .ok (.aload_n 0, 1) := by decide +kernel
theorem dX8_letter_98 : decode cX8_letter 98 = .ok (.getfield 33, 3) := by decide +kernel
theorem dX8_letter_101 : decode cX8_letter 101 = .ok (.invokevirtual 83, 3) := by decide +kernel
theorem dX8_letter_104 : decode cX8_letter 104 = .ok (.ireturn, 1) := by decide +kernel
theorem dX8_fault_0 : decode cX8_fault 0 = .ok (.aload_n 0, 1) := by decide +kernel
theorem dX8_fault_1 : decode cX8_fault 1 = .ok (.getfield 40, 3) := by decide +kernel
theorem dX8_fault_4 : decode cX8_fault 4 = .ok (.ireturn, 1) := by decide +kernel
theorem dX8_part_0 : decode cX8_part 0 = .ok (.aload_n 0, 1) := by decide +kernel
theorem dX8_part_1 : decode cX8_part 1 = .ok (.iload_n 1, 1) := by decide +kernel
theorem dX8_part_2 : decode cX8_part 2 = .ok (.invokevirtual 85, 3) := by decide +kernel
theorem dX8_part_5 : decode cX8_part 5 = .ok (.aload_n 0, 1) := by decide +kernel
theorem dX8_part_6 : decode cX8_part 6 = .ok (.aload_n 0, 1) := by decide +kernel
theorem dX8_part_7 : decode cX8_part 7 = .ok (.getfield 37, 3) := by decide +kernel
theorem dX8_part_10 : decode cX8_part 10 = .ok (.iload_n 1, 1) := by decide +kernel
theorem dX8_part_11 : decode cX8_part 11 = .ok (.invokevirtual 88, 3) := by decide +kernel
theorem dX8_part_14 : decode cX8_part 14 = .ok (.invokevirtual 91, 3) := by decide +kernel
theorem dX8_part_17 : decode cX8_part 17 = .ok (.ireturn, 1) := by decide +kernel
theorem dX8_melt_0 : decode cX8_melt 0 = .ok (.aload_n 0, 1) := by decide +kernel
theorem dX8_melt_1 : decode cX8_melt 1 = .ok (.iload_n 1, 1) := by decide +kernel
theorem dX8_melt_2 : decode cX8_melt 2 = .ok (.invokevirtual 85, 3) := by decide +kernel
theorem dX8_melt_5 : decode cX8_melt 5 = .ok (.aload_n 0, 1) := by decide +kernel
theorem dX8_melt_6 : decode cX8_melt 6 = .ok (.aload_n 0, 1) := by decide +kernel
theorem dX8_melt_7 : decode cX8_melt 7 = .ok (.getfield 37, 3) := by decide +kernel
theorem dX8_melt_10 : decode cX8_melt 10 = .ok (.iload_n 1, 1) := by decide +kernel
theorem dX8_melt_11 : decode cX8_melt 11 = .ok (.invokevirtual 95, 3) := by decide +kernel
theorem dX8_melt_14 : decode cX8_melt 14 = .ok (.invokevirtual 91, 3) := by decide +kernel
theorem dX8_melt_17 : decode cX8_melt 17 = .ok (.ireturn, 1) := by decide +kernel
theorem dX8_turn_0 : decode cX8_turn 0 = .ok (.aload_n 0, 1) := by decide +kernel
theorem dX8_turn_1 : decode cX8_turn 1 = .ok (.iload_n 1, 1) := by decide +kernel
theorem dX8_turn_2 : decode cX8_turn 2 = .ok (.invokevirtual 85, 3) := by decide +kernel
theorem dX8_turn_5 : decode cX8_turn 5 = .ok (.aload_n 0, 1) := by decide +kernel
theorem dX8_turn_6 : decode cX8_turn 6 = .ok (.aload_n 0, 1) := by decide +kernel
theorem dX8_turn_7 : decode cX8_turn 7 = .ok (.getfield 37, 3) := by decide +kernel
theorem dX8_turn_10 : decode cX8_turn 10 = .ok (.iload_n 1, 1) := by decide +kernel
theorem dX8_turn_11 : decode cX8_turn 11 = .ok (.invokevirtual 98, 3) := by decide +kernel
theorem dX8_turn_14 : decode cX8_turn 14 = .ok (.invokevirtual 91, 3) := by decide +kernel
theorem dX8_turn_17 : decode cX8_turn 17 = .ok (.ireturn, 1) := by decide +kernel
theorem dX8_ease_0 : decode cX8_ease 0 = .ok (.aload_n 0, 1) := by decide +kernel
theorem dX8_ease_1 : decode cX8_ease 1 = .ok (.iload_n 1, 1) := by decide +kernel
theorem dX8_ease_2 : decode cX8_ease 2 = .ok (.invokevirtual 85, 3) := by decide +kernel
theorem dX8_ease_5 : decode cX8_ease 5 = .ok (.aload_n 0, 1) := by decide +kernel
theorem dX8_ease_6 : decode cX8_ease 6 = .ok (.aload_n 0, 1) := by decide +kernel
theorem dX8_ease_7 : decode cX8_ease 7 = .ok (.getfield 37, 3) := by decide +kernel
theorem dX8_ease_10 : decode cX8_ease 10 = .ok (.iload_n 1, 1) := by decide +kernel
theorem dX8_ease_11 : decode cX8_ease 11 = .ok (.invokevirtual 101, 3) := by decide +kernel
theorem dX8_ease_14 : decode cX8_ease 14 = .ok (.invokevirtual 91, 3) := by decide +kernel
theorem dX8_ease_17 : decode cX8_ease 17 = .ok (.ireturn, 1) := by decide +kernel
theorem dX8_plainest_0 : decode cX8_plainest 0 = .ok (.aload_n 0, 1) := by decide +kernel
theorem dX8_plainest_1 : decode cX8_plainest 1 = .ok (.invokevirtual 104, 3) := by decide +kernel
theorem dX8_plainest_4 : decode cX8_plainest 4 = .ok (.aload_n 0, 1) := by decide +kernel
theorem dX8_plainest_5 : decode cX8_plainest 5 = .ok (.getfield 37, 3) := by decide +kernel
theorem dX8_plainest_8 : decode cX8_plainest 8 = .ok (.aload_n 0, 1) := by decide +kernel
theorem dX8_plainest_9 : decode cX8_plainest 9 = .ok (.getfield 33, 3) := by decide +kernel
theorem dX8_plainest_12 : decode cX8_plainest 12 = .ok (.invokevirtual 107, 3) := by decide +kernel
theorem dX8_plainest_15 : decode cX8_plainest 15 = .ok (.aload_n 0, 1) := by decide +kernel
theorem dX8_plainest_16 : decode cX8_plainest 16 = .ok (.getfield 37, 3) := by decide +kernel
theorem dX8_plainest_19 : decode cX8_plainest 19 = .ok (.invokevirtual 110, 3) := by decide +kernel
theorem dX8_plainest_22 : decode cX8_plainest 22 = .ok (.ireturn, 1) := by decide +kernel
theorem dX8_again_0 : decode cX8_again 0 = .ok (.aload_n 0, 1) := by decide +kernel
theorem dX8_again_1 : decode cX8_again 1 = .ok (.invokevirtual 104, 3) := by decide +kernel
theorem dX8_again_4 : decode cX8_again 4 = .ok (.aload_n 0, 1) := by decide +kernel
theorem dX8_again_5 : decode cX8_again 5 = .ok (.getfield 37, 3) := by decide +kernel
theorem dX8_again_8 : decode cX8_again 8 = .ok (.aload_n 0, 1) := by decide +kernel
theorem dX8_again_9 : decode cX8_again 9 = .ok (.getfield 33, 3) := by decide +kernel
theorem dX8_again_12 : decode cX8_again 12 = .ok (.invokevirtual 79, 3) := by decide +kernel
theorem dX8_again_15 : decode cX8_again 15 = .ok (.return_, 1) := by decide +kernel
theorem dX8_cost_0 : decode cX8_cost 0 = .ok (.aload_n 0, 1) := by decide +kernel
theorem dX8_cost_1 : decode cX8_cost 1 = .ok (.invokevirtual 104, 3) := by decide +kernel
theorem dX8_cost_4 : decode cX8_cost 4 = .ok (.aload_n 0, 1) := by decide +kernel
theorem dX8_cost_5 : decode cX8_cost 5 = .ok (.iload_n 1, 1) := by decide +kernel
theorem dX8_cost_6 : decode cX8_cost 6 = .ok (.invokevirtual 113, 3) := by decide +kernel
theorem dX8_cost_9 : decode cX8_cost 9 = .ok (.invokevirtual 110, 3) := by decide +kernel
theorem dX8_cost_12 : decode cX8_cost 12 = .ok (.ireturn, 1) := by decide +kernel
theorem dX8_look_0 : decode cX8_look 0 = .ok (.aload_n 0, 1) := by decide +kernel
theorem dX8_look_1 : decode cX8_look 1 = .ok (.iload_n 1, 1) := by decide +kernel
theorem dX8_look_2 : decode cX8_look 2 = .ok (.invokevirtual 85, 3) := by decide +kernel
theorem dX8_look_5 : decode cX8_look 5 = .ok (.iload_n 2, 1) := by decide +kernel
theorem dX8_look_6 : decode cX8_look 6 = .ok (.ifCond .lt 9, 3) := by decide +kernel
theorem dX8_look_9 : decode cX8_look 9 = .ok (.iload_n 2, 1) := by decide +kernel
theorem dX8_look_10 : decode cX8_look 10 = .ok (.bipush 8, 2) := by decide +kernel
theorem dX8_look_12 : decode cX8_look 12 = .ok (.if_icmp .le 13, 3) := by decide +kernel
theorem dX8_look_15 : decode cX8_look 15 = .ok (.new 117, 3) := by decide +kernel
theorem dX8_look_18 : decode cX8_look 18 = .ok (.dup, 1) := by decide +kernel
theorem dX8_look_19 : decode cX8_look 19 = .ok (.ldc 119, 2) := by decide +kernel
theorem dX8_look_21 : decode cX8_look 21 = .ok (.invokespecial 121, 3) := by decide +kernel
theorem dX8_look_24 : decode cX8_look 24 = .ok (.athrow, 1) := by decide +kernel
theorem dX8_look_25 : decode cX8_look 25 = .ok (.aload_n 0, 1) := by decide +kernel
theorem dX8_look_26 : decode cX8_look 26 = .ok (.getfield 37, 3) := by decide +kernel
theorem dX8_look_29 : decode cX8_look 29 = .ok (.iload_n 1, 1) := by decide +kernel
theorem dX8_look_30 : decode cX8_look 30 = .ok (.invokevirtual 122, 3) := by decide +kernel
theorem dX8_look_33 : decode cX8_look 33 = .ok (.iload_n 2, 1) := by decide +kernel
theorem dX8_look_34 : decode cX8_look 34 = .ok (.invokevirtual 126, 3) := by decide +kernel
theorem dX8_look_37 : decode cX8_look 37 = .ok (.ireturn, 1) := by decide +kernel
theorem dX8_same_0 : decode cX8_same 0 = .ok (.aload_n 0, 1) := by decide +kernel
theorem dX8_same_1 : decode cX8_same 1 = .ok (.invokevirtual 104, 3) := by decide +kernel
theorem dX8_same_4 : decode cX8_same 4 = .ok (.aload_n 0, 1) := by decide +kernel
theorem dX8_same_5 : decode cX8_same 5 = .ok (.getfield 33, 3) := by decide +kernel
theorem dX8_same_8 : decode cX8_same 8 = .ok (.aload_n 0, 1) := by decide +kernel
theorem dX8_same_9 : decode cX8_same 9 = .ok (.getfield 37, 3) := by decide +kernel
theorem dX8_same_12 : decode cX8_same 12 = .ok (.invokevirtual 132, 3) := by decide +kernel
theorem dX8_same_15 : decode cX8_same 15 = .ok (.ifCond .eq 21, 3) := by decide +kernel
theorem dX8_same_18 : decode cX8_same 18 = .ok (.aload_n 0, 1) := by decide +kernel
theorem dX8_same_19 : decode cX8_same 19 = .ok (.getfield 37, 3) := by decide +kernel
theorem dX8_same_22 : decode cX8_same 22 = .ok (.aload_n 0, 1) := by decide +kernel
theorem dX8_same_23 : decode cX8_same 23 = .ok (.getfield 33, 3) := by decide +kernel
theorem dX8_same_26 : decode cX8_same 26 = .ok (.invokevirtual 132, 3) := by decide +kernel
theorem dX8_same_29 : decode cX8_same 29 = .ok (.ifCond .eq 7, 3) := by decide +kernel
theorem dX8_same_32 : decode cX8_same 32 = .ok (.iconst 1, 1) := by decide +kernel
theorem dX8_same_33 : decode cX8_same 33 = .ok (.goto 4, 3) := by decide +kernel
theorem dX8_same_36 : decode cX8_same 36 = .ok (.iconst 0, 1) := by decide +kernel
theorem dX8_same_37 : decode cX8_same 37 = .ok (.ireturn, 1) := by decide +kernel
theorem dX8_write_0 : decode cX8_write 0 = .ok (.aload_n 0, 1) := by decide +kernel
theorem dX8_write_1 : decode cX8_write 1 = .ok (.invokevirtual 104, 3) := by decide +kernel
theorem dX8_write_4 : decode cX8_write 4 = .ok (.aload_n 0, 1) := by decide +kernel
theorem dX8_write_5 : decode cX8_write 5 = .ok (.getfield 26, 3) := by decide +kernel
theorem dX8_write_8 : decode cX8_write 8 = .ok (.aload_n 0, 1) := by decide +kernel
theorem dX8_write_9 : decode cX8_write 9 = .ok (.getfield 37, 3) := by decide +kernel
theorem dX8_write_12 : decode cX8_write 12 = .ok (.invokevirtual 136, 3) := by decide +kernel
theorem dX8_write_15 : decode cX8_write 15 = .ok (.aload_n 0, 1) := by decide +kernel
theorem dX8_write_16 : decode cX8_write 16 = .ok (.getfield 26, 3) := by decide +kernel
theorem dX8_write_19 : decode cX8_write 19 = .ok (.getfield 139, 3) := by decide +kernel
theorem dX8_write_22 : decode cX8_write 22 = .ok (.sipush 400, 3) := by decide +kernel
theorem dX8_write_25 : decode cX8_write 25 = .ok (.if_icmp .le 5, 3) := by decide +kernel
theorem dX8_write_28 : decode cX8_write 28 = .ok (.iconst (-1), 1) := by decide +kernel
theorem dX8_write_29 : decode cX8_write 29 = .ok (.ireturn, 1) := by decide +kernel
theorem dX8_write_30 : decode cX8_write 30 = .ok (.aload_n 0, 1) := by decide +kernel
theorem dX8_write_31 : decode cX8_write 31 = .ok (.getfield 10, 3) := by decide +kernel
theorem dX8_write_34 : decode cX8_write 34 = .ok (.aload_n 0, 1) := by decide +kernel
theorem dX8_write_35 : decode cX8_write 35 = .ok (.getfield 26, 3) := by decide +kernel
theorem dX8_write_38 : decode cX8_write 38 = .ok (.getfield 140, 3) := by decide +kernel
theorem dX8_write_41 : decode cX8_write 41 = .ok (.aload_n 0, 1) := by decide +kernel
theorem dX8_write_42 : decode cX8_write 42 = .ok (.getfield 26, 3) := by decide +kernel
theorem dX8_write_45 : decode cX8_write 45 = .ok (.getfield 139, 3) := by decide +kernel
theorem dX8_write_48 : decode cX8_write 48 = .ok (.invokevirtual 144, 3) := by decide +kernel
theorem dX8_write_51 : decode cX8_write 51 = .ok (.aload_n 0, 1) := by decide +kernel
theorem dX8_write_52 : decode cX8_write 52 = .ok (.getfield 10, 3) := by decide +kernel
theorem dX8_write_55 : decode cX8_write 55 = .ok (.getfield 50, 3) := by decide +kernel
theorem dX8_write_58 : decode cX8_write 58 = .ok (.ireturn, 1) := by decide +kernel
theorem dX8_taped_0 : decode cX8_taped 0 = .ok (.aload_n 0, 1) := by decide +kernel
theorem dX8_taped_1 : decode cX8_taped 1 = .ok (.getfield 10, 3) := by decide +kernel
theorem dX8_taped_4 : decode cX8_taped 4 = .ok (.iload_n 1, 1) := by decide +kernel
theorem dX8_taped_5 : decode cX8_taped 5 = .ok (.invokevirtual 147, 3) := by decide +kernel
theorem dX8_taped_8 : decode cX8_taped 8 = .ok (.ireturn, 1) := by decide +kernel
theorem dX8_ask_0 : decode cX8_ask 0 = .ok (.aload_n 0, 1) := by decide +kernel
theorem dX8_ask_1 : decode cX8_ask 1 = .ok (.invokevirtual 104, 3) := by decide +kernel
theorem dX8_ask_4 : decode cX8_ask 4 = .ok (.aload_n 0, 1) := by decide +kernel
theorem dX8_ask_5 : decode cX8_ask 5 = .ok (.iload_n 1, 1) := by decide +kernel
theorem dX8_ask_6 : decode cX8_ask 6 = .ok (.invokevirtual 113, 3) := by decide +kernel
theorem dX8_ask_9 : decode cX8_ask 9 = .ok (.iload_n 2, 1) := by decide +kernel
theorem dX8_ask_10 : decode cX8_ask 10 = .ok (.iload_n 3, 1) := by decide +kernel
theorem dX8_ask_11 : decode cX8_ask 11 = .ok (.iload 4, 2) := by decide +kernel
theorem dX8_ask_13 : decode cX8_ask 13 = .ok (.invokevirtual 149, 3) := by decide +kernel
theorem dX8_ask_16 : decode cX8_ask 16 = .ok (.ireturn, 1) := by decide +kernel
theorem dX8_days_0 : decode cX8_days 0 = .ok (.aload_n 0, 1) := by decide +kernel
theorem dX8_days_1 : decode cX8_days 1 = .ok (.invokevirtual 104, 3) := by decide +kernel
theorem dX8_days_4 : decode cX8_days 4 = .ok (.aload_n 0, 1) := by decide +kernel
theorem dX8_days_5 : decode cX8_days 5 = .ok (.getfield 37, 3) := by decide +kernel
theorem dX8_days_8 : decode cX8_days 8 = .ok (.iload_n 1, 1) := by decide +kernel
theorem dX8_days_9 : decode cX8_days 9 = .ok (.iload_n 2, 1) := by decide +kernel
theorem dX8_days_10 : decode cX8_days 10 = .ok (.iload_n 3, 1) := by decide +kernel
theorem dX8_days_11 : decode cX8_days 11 = .ok (.invokevirtual 153, 3) := by decide +kernel
theorem dX8_days_14 : decode cX8_days 14 = .ok (.ireturn, 1) := by decide +kernel
theorem dX8_count_0 : decode cX8_count 0 = .ok (.iload_n 1, 1) := by decide +kernel
theorem dX8_count_1 : decode cX8_count 1 = .ok (.tableswitch 69 0 4 #[35, 43, 51, 59, 64], 35) := by decide +kernel
theorem dX8_count_36 : decode cX8_count 36 = .ok (.aload_n 0, 1) := by decide +kernel
theorem dX8_count_37 : decode cX8_count 37 = .ok (.getfield 33, 3) := by decide +kernel
theorem dX8_count_40 : decode cX8_count 40 = .ok (.invokevirtual 83, 3) := by decide +kernel
theorem dX8_count_43 : decode cX8_count 43 = .ok (.ireturn, 1) := by decide +kernel
theorem dX8_count_44 : decode cX8_count 44 = .ok (.aload_n 0, 1) := by decide +kernel
theorem dX8_count_45 : decode cX8_count 45 = .ok (.getfield 37, 3) := by decide +kernel
theorem dX8_count_48 : decode cX8_count 48 = .ok (.invokevirtual 83, 3) := by decide +kernel
theorem dX8_count_51 : decode cX8_count 51 = .ok (.ireturn, 1) := by decide +kernel
theorem dX8_count_52 : decode cX8_count 52 = .ok (.aload_n 0, 1) := by decide +kernel
theorem dX8_count_53 : decode cX8_count 53 = .ok (.getfield 10, 3) := by decide +kernel
theorem dX8_count_56 : decode cX8_count 56 = .ok (.getfield 50, 3) := by decide +kernel
theorem dX8_count_59 : decode cX8_count 59 = .ok (.ireturn, 1) := by decide +kernel
theorem dX8_count_60 : decode cX8_count 60 = .ok (.aload_n 0, 1) := by decide +kernel
theorem dX8_count_61 : decode cX8_count 61 = .ok (.getfield 44, 3) := by decide +kernel
theorem dX8_count_64 : decode cX8_count 64 = .ok (.ireturn, 1) := by decide +kernel
theorem dX8_count_65 : decode cX8_count 65 = .ok (.aload_n 0, 1) := by decide +kernel
theorem dX8_count_66 : decode cX8_count 66 = .ok (.getfield 47, 3) := by decide +kernel
theorem dX8_count_69 : decode cX8_count 69 = .ok (.ireturn, 1) := by decide +kernel
theorem dX8_count_70 : decode cX8_count 70 = .ok (.iconst (-1), 1) := by decide +kernel
theorem dX8_count_71 : decode cX8_count 71 = .ok (.ireturn, 1) := by decide +kernel
theorem dX8_needLetter_0 : decode cX8_needLetter 0 = .ok (.aload_n 0, 1) := by decide +kernel
theorem dX8_needLetter_1 : decode cX8_needLetter 1 = .ok (.getfield 44, 3) := by decide +kernel
theorem dX8_needLetter_4 : decode cX8_needLetter 4 = .ok (.ifCond .ne 13, 3) := by decide +kernel
theorem dX8_needLetter_7 : decode cX8_needLetter 7 = .ok (.new 156, 3) := by decide +kernel
theorem dX8_needLetter_10 : decode cX8_needLetter 10 = .ok (.dup, 1) := by decide +kernel
theorem dX8_needLetter_11 : decode cX8_needLetter 11 = .ok (.ldc 158, 2) := by decide +kernel
theorem dX8_needLetter_13 : decode cX8_needLetter 13 = .ok (.invokespecial 160, 3) := by decide +kernel
theorem dX8_needLetter_16 : decode cX8_needLetter 16 = .ok (.athrow, 1) := by decide +kernel
theorem dX8_needLetter_17 : decode cX8_needLetter 17 = .ok (.return_, 1) := by decide +kernel
theorem dX8_needSentence_0 : decode cX8_needSentence 0 = .ok (.aload_n 0, 1) := by decide +kernel
theorem dX8_needSentence_1 : decode cX8_needSentence 1 = .ok (.invokevirtual 104, 3) := by decide +kernel
theorem dX8_needSentence_4 : decode cX8_needSentence 4 = .ok (.iload_n 1, 1) := by decide +kernel
theorem dX8_needSentence_5 : decode cX8_needSentence 5 = .ok (.ifCond .lt 14, 3) := by decide +kernel
theorem dX8_needSentence_8 : decode cX8_needSentence 8 = .ok (.iload_n 1, 1) := by decide +kernel
theorem dX8_needSentence_9 : decode cX8_needSentence 9 = .ok (.aload_n 0, 1) := by decide +kernel
theorem dX8_needSentence_10 : decode cX8_needSentence 10 = .ok (.getfield 37, 3) := by decide +kernel
theorem dX8_needSentence_13 : decode cX8_needSentence 13 = .ok (.invokevirtual 83, 3) := by decide +kernel
theorem dX8_needSentence_16 : decode cX8_needSentence 16 = .ok (.if_icmp .lt 13, 3) := by decide +kernel
theorem dX8_needSentence_19 : decode cX8_needSentence 19 = .ok (.new 161, 3) := by decide +kernel
theorem dX8_needSentence_22 : decode cX8_needSentence 22 = .ok (.dup, 1) := by decide +kernel
theorem dX8_needSentence_23 : decode cX8_needSentence 23 = .ok (.ldc 163, 2) := by decide +kernel
theorem dX8_needSentence_25 : decode cX8_needSentence 25 = .ok (.invokespecial 165, 3) := by decide +kernel
theorem dX8_needSentence_28 : decode cX8_needSentence 28 = .ok (.athrow, 1) := by decide +kernel
theorem dX8_needSentence_29 : decode cX8_needSentence 29 = .ok (.return_, 1) := by decide +kernel
theorem dX8_chosen_0 : decode cX8_chosen 0 = .ok (.iload_n 1, 1) := by decide +kernel
theorem dX8_chosen_1 : decode cX8_chosen 1 = .ok (.ifCond .eq 10, 3) := by decide +kernel
theorem dX8_chosen_4 : decode cX8_chosen 4 = .ok (.aload_n 0, 1) := by decide +kernel
theorem dX8_chosen_5 : decode cX8_chosen 5 = .ok (.getfield 33, 3) := by decide +kernel
theorem dX8_chosen_8 : decode cX8_chosen 8 = .ok (.goto 7, 3) := by decide +kernel
theorem dX8_chosen_11 : decode cX8_chosen 11 = .ok (.aload_n 0, 1) := by decide +kernel
theorem dX8_chosen_12 : decode cX8_chosen 12 = .ok (.getfield 37, 3) := by decide +kernel
theorem dX8_chosen_15 : decode cX8_chosen 15 = .ok (.areturn, 1) := by decide +kernel
theorem dX8_tallied_0 : decode cX8_tallied 0 = .ok (.iload_n 1, 1) := by decide +kernel
theorem dX8_tallied_1 : decode cX8_tallied 1 = .ok (.ifCond .eq 13, 3) := by decide +kernel
theorem dX8_tallied_4 : decode cX8_tallied 4 = .ok (.aload_n 0, 1) := by decide +kernel
theorem dX8_tallied_5 : decode cX8_tallied 5 = .ok (.dup, 1) := by decide +kernel
theorem dX8_tallied_6 : decode cX8_tallied 6 = .ok (.getfield 47, 3) := by decide +kernel
theorem dX8_tallied_9 : decode cX8_tallied 9 = .ok (.iconst 1, 1) := by decide +kernel
theorem dX8_tallied_10 : decode cX8_tallied 10 = .ok (.iadd, 1) := by decide +kernel
theorem dX8_tallied_11 : decode cX8_tallied 11 = .ok (.putfield 47, 3) := by decide +kernel
theorem dX8_tallied_14 : decode cX8_tallied 14 = .ok (.iload_n 1, 1) := by decide +kernel
theorem dX8_tallied_15 : decode cX8_tallied 15 = .ok (.ireturn, 1) := by decide +kernel
