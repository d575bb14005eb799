theorem dX1_init_0 : decode cX1_init 0 = .ok (.aload_n 0, 1) := by decide +kernel
theorem dX1_init_1 : decode cX1_init 1 = .ok (.invokespecial 3, 3) := by decide +kernel
theorem dX1_init_4 : decode cX1_init 4 = .ok (.aload_n 0, 1) := by decide +kernel
theorem dX1_init_5 : decode cX1_init 5 = .ok (.bipush 8, 2) := by decide +kernel
theorem dX1_init_7 : decode cX1_init 7 = .ok (.newarray .int, 2) := by decide +kernel
theorem dX1_init_9 : decode cX1_init 9 = .ok (.putfield 9, 3) := by decide +kernel
theorem dX1_init_12 : decode cX1_init 12 = .ok (.aload_n 0, 1) := by decide +kernel
theorem dX1_init_13 : decode cX1_init 13 = .ok (.bipush 8, 2) := by decide +kernel
theorem dX1_init_15 : decode cX1_init 15 = .ok (.newarray .int, 2) := by decide +kernel
theorem dX1_init_17 : decode cX1_init 17 = .ok (.putfield 15, 3) := by decide +kernel
theorem dX1_init_20 : decode cX1_init 20 = .ok (.return_, 1) := by decide +kernel
theorem dX1_put_0 : decode cX1_put 0 = .ok (.aload_n 0, 1) := by decide +kernel
theorem dX1_put_1 : decode cX1_put 1 = .ok (.getfield 18, 3) := by decide +kernel
theorem dX1_put_4 : decode cX1_put 4 = .ok (.bipush 8, 2) := by decide +kernel
theorem dX1_put_6 : decode cX1_put 6 = .ok (.if_icmp .lt 5, 3) := by decide +kernel
theorem dX1_put_9 : decode cX1_put 9 = .ok (.iconst 0, 1) := by decide +kernel
theorem dX1_put_10 : decode cX1_put 10 = .ok (.ireturn, 1) := by decide +kernel
theorem dX1_put_11 : decode cX1_put 11 = .ok (.aload_n 0, 1) := by decide +kernel
theorem dX1_put_12 : decode cX1_put 12 = .ok (.getfield 9, 3) := by decide +kernel
theorem dX1_put_15 : decode cX1_put 15 = .ok (.aload_n 0, 1) := by decide +kernel
theorem dX1_put_16 : decode cX1_put 16 = .ok (.getfield 18, 3) := by decide +kernel
theorem dX1_put_19 : decode cX1_put 19 = .ok (.iload_n 1, 1) := by decide +kernel
theorem dX1_put_20 : decode cX1_put 20 = .ok (.iastore, 1) := by decide +kernel
theorem dX1_put_21 : decode cX1_put 21 = .ok (.aload_n 0, 1) := by decide +kernel
theorem dX1_put_22 : decode cX1_put 22 = .ok (.getfield 15, 3) := by decide +kernel
theorem dX1_put_25 : decode cX1_put 25 = .ok (.aload_n 0, 1) := by decide +kernel
theorem dX1_put_26 : decode cX1_put 26 = .ok (.getfield 18, 3) := by decide +kernel
theorem dX1_put_29 : decode cX1_put 29 = .ok (.iload_n 2, 1) := by decide +kernel
theorem dX1_put_30 : decode cX1_put 30 = .ok (.iastore, 1) := by decide +kernel
theorem dX1_put_31 : decode cX1_put 31 = .ok (.aload_n 0, 1) := by decide +kernel
theorem dX1_put_32 : decode cX1_put 32 = .ok (.dup, 1) := by decide +kernel
theorem dX1_put_33 : decode cX1_put 33 = .ok (.getfield 18, 3) := by decide +kernel
theorem dX1_put_36 : decode cX1_put 36 = .ok (.iconst 1, 1) := by decide +kernel
theorem dX1_put_37 : decode cX1_put 37 = .ok (.iadd, 1) := by decide +kernel
theorem dX1_put_38 : decode cX1_put 38 = .ok (.putfield 18, 3) := by decide +kernel
theorem dX1_put_41 : decode cX1_put 41 = .ok (.iconst 1, 1) := by decide +kernel
theorem dX1_put_42 : decode cX1_put 42 = .ok (.ireturn, 1) := by decide +kernel
theorem dX1_dropFirst_0 : decode cX1_dropFirst 0 = .ok (.iconst 1, 1) := by decide +kernel
theorem dX1_dropFirst_1 : decode cX1_dropFirst 1 = .ok (.istore_n 1, 1) := by decide +kernel
theorem dX1_dropFirst_2 : decode cX1_dropFirst 2 = .ok (.iload_n 1, 1) := by decide +kernel
theorem dX1_dropFirst_3 : decode cX1_dropFirst 3 = .ok (.aload_n 0, 1) := by decide +kernel
theorem dX1_dropFirst_4 : decode cX1_dropFirst 4 = .ok (.getfield 18, 3) := by decide +kernel
theorem dX1_dropFirst_7 : decode cX1_dropFirst 7 = .ok (.if_icmp .ge 37, 3) := by decide +kernel
theorem dX1_dropFirst_10 : decode cX1_dropFirst 10 = .ok (.aload_n 0, 1) := by decide +kernel
theorem dX1_dropFirst_11 : decode cX1_dropFirst 11 = .ok (.getfield 9, 3) := by decide +kernel
theorem dX1_dropFirst_14 : decode cX1_dropFirst 14 = .ok (.iload_n 1, 1) := by decide +kernel
theorem dX1_dropFirst_15 : decode cX1_dropFirst 15 = .ok (.iconst 1, 1) := by decide +kernel
theorem dX1_dropFirst_16 : decode cX1_dropFirst 16 = .ok (.isub, 1) := by decide +kernel
theorem dX1_dropFirst_17 : decode cX1_dropFirst 17 = .ok (.aload_n 0, 1) := by decide +kernel
theorem dX1_dropFirst_18 : decode cX1_dropFirst 18 = .ok (.getfield 9, 3) := by decide +kernel
theorem dX1_dropFirst_21 : decode cX1_dropFirst 21 = .ok (.iload_n 1, 1) := by decide +kernel
theorem dX1_dropFirst_22 : decode cX1_dropFirst 22 = .ok (.iaload, 1) := by decide +kernel
theorem dX1_dropFirst_23 : decode cX1_dropFirst 23 = .ok (.iastore, 1) := by decide +kernel
theorem dX1_dropFirst_24 : decode cX1_dropFirst 24 = .ok (.aload_n 0, 1) := by decide +kernel
theorem dX1_dropFirst_25 : decode cX1_dropFirst 25 = .ok (.getfield 15, 3) := by decide +kernel
theorem dX1_dropFirst_28 : decode cX1_dropFirst 28 = .ok (.iload_n 1, 1) := by decide +kernel
theorem dX1_dropFirst_29 : decode cX1_dropFirst 29 = .ok (.iconst 1, 1) := by decide +kernel
theorem dX1_dropFirst_30 : decode cX1_dropFirst 30 = .ok (.isub, 1) := by decide +kernel
theorem dX1_dropFirst_31 : decode cX1_dropFirst 31 = .ok (.aload_n 0, 1) := by decide +kernel
theorem dX1_dropFirst_32 : decode cX1_dropFirst 32 = .ok (.getfield 15, 3) := by decide +kernel
theorem dX1_dropFirst_35 : decode cX1_dropFirst 35 = .ok (.iload_n 1, 1) := by decide +kernel
theorem dX1_dropFirst_36 : decode cX1_dropFirst 36 = .ok (.iaload, 1) := by decide +kernel
theorem dX1_dropFirst_37 : decode cX1_dropFirst 37 = .ok (.iastore, 1) := by decide +kernel
theorem dX1_dropFirst_38 : decode cX1_dropFirst 38 = .ok (.iinc 1 1, 3) := by decide +kernel
theorem dX1_dropFirst_41 : decode cX1_dropFirst 41 = .ok (.goto (-39), 3) := by decide +kernel
theorem dX1_dropFirst_44 : decode cX1_dropFirst 44 = .ok (.aload_n 0, 1) := by decide +kernel
theorem dX1_dropFirst_45 : decode cX1_dropFirst 45 = .ok (.getfield 18, 3) := by decide +kernel
theorem dX1_dropFirst_48 : decode cX1_dropFirst 48 = .ok (.ifCond .le 13, 3) := by decide +kernel
theorem dX1_dropFirst_51 : decode cX1_dropFirst 51 = .ok (.aload_n 0, 1) := by decide +kernel
theorem dX1_dropFirst_52 : decode cX1_dropFirst 52 = .ok (.dup, 1) := by decide +kernel
theorem dX1_dropFirst_53 : decode cX1_dropFirst 53 = .ok (.getfield 18, 3) := by decide +kernel
theorem dX1_dropFirst_56 : decode cX1_dropFirst 56 = .ok (.iconst 1, 1) := by decide +kernel
theorem dX1_dropFirst_57 : decode cX1_dropFirst 57 = .ok (.isub, 1) := by decide +kernel
theorem dX1_dropFirst_58 : decode cX1_dropFirst 58 = .ok (.putfield 18, 3) := by decide +kernel
theorem dX1_dropFirst_61 : decode cX1_dropFirst 61 = .ok (.return_, 1) := by decide +kernel
theorem dX2_init_0 : decode cX2_init 0 = .ok (.aload_n 0, 1) := by decide +kernel
theorem dX2_init_1 : decode cX2_init 1 = .ok (.invokespecial 3, 3) := by decide +kernel
theorem dX2_init_4 : decode cX2_init 4 = .ok (.aload_n 0, 1) := by decide +kernel
theorem dX2_init_5 : decode cX2_init 5 = .ok (.bipush 13, 2) := by decide +kernel
theorem dX2_init_7 : decode cX2_init 7 = .ok (.anewarray 9, 3) := by decide +kernel
theorem dX2_init_10 : decode cX2_init 10 = .ok (.putfield 11, 3) := by decide +kernel
theorem dX2_init_13 : decode cX2_init 13 = .ok (.aload_n 0, 1) := by decide +kernel
theorem dX2_init_14 : decode cX2_init 14 = .ok (.bipush 12, 2) := by decide +kernel
theorem dX2_init_16 : decode cX2_init 16 = .ok (.anewarray 17, 3) := by decide +kernel
theorem dX2_init_19 : decode cX2_init 19 = .ok (.putfield 19, 3) := by decide +kernel
theorem dX2_init_22 : decode cX2_init 22 = .ok (.aload_n 0, 1) := by decide +kernel
theorem dX2_init_23 : decode cX2_init 23 = .ok (.iconst 3, 1) := by decide +kernel
theorem dX2_init_24 : decode cX2_init 24 = .ok (.anewarray 23, 3) := by decide +kernel
theorem dX2_init_27 : decode cX2_init 27 = .ok (.putfield 25, 3) := by decide +kernel
theorem dX2_init_30 : decode cX2_init 30 = .ok (.aload_n 0, 1) := by decide +kernel
theorem dX2_init_31 : decode cX2_init 31 = .ok (.bipush 8, 2) := by decide +kernel
theorem dX2_init_33 : decode cX2_init 33 = .ok (.newarray .int, 2) := by decide +kernel
theorem dX2_init_35 : decode cX2_init 35 = .ok (.putfield 29, 3) := by decide +kernel
theorem dX2_init_38 : decode cX2_init 38 = .ok (.aload_n 0, 1) := by decide +kernel
theorem dX2_init_39 : decode cX2_init 39 = .ok (.bipush 8, 2) := by decide +kernel
theorem dX2_init_41 : decode cX2_init 41 = .ok (.anewarray 23, 3) := by decide +kernel
theorem dX2_init_44 : decode cX2_init 44 = .ok (.putfield 33, 3) := by decide +kernel
theorem dX2_init_47 : decode cX2_init 47 = .ok (.aload_n 0, 1) := by decide +kernel
theorem dX2_init_48 : decode cX2_init 48 = .ok (.new 36, 3) := by decide +kernel
theorem dX2_init_51 : decode cX2_init 51 = .ok (.dup, 1) := by decide +kernel
theorem dX2_init_52 : decode cX2_init 52 = .ok (.invokespecial 38, 3) := by decide +kernel
theorem dX2_init_55 : decode cX2_init 55 = .ok (.putfield 39, 3) := by decide +kernel
theorem dX2_init_58 : decode cX2_init 58 = .ok (.aload_n 0, 1) := by decide +kernel
theorem dX2_init_59 : decode cX2_init 59 = .ok (.sipush 2000, 3) := by decide +kernel
theorem dX2_init_62 : decode cX2_init 62 = .ok (.newarray .int, 2) := by decide +kernel
theorem dX2_init_64 : decode cX2_init 64 = .ok (.putfield 43, 3) := by decide +kernel
theorem dX2_init_67 : decode cX2_init 67 = .ok (.aload_n 0, 1) := by decide +kernel
theorem dX2_init_68 : decode cX2_init 68 = .ok (.ldc 46, 2) := by decide +kernel
theorem dX2_init_70 : decode cX2_init 70 = .ok (.putfield 47, 3) := by decide +kernel
theorem dX2_init_73 : decode cX2_init 73 = .ok (.iconst 0, 1) := by decide +kernel
theorem dX2_init_74 : decode cX2_init 74 = .ok (.istore_n 1, 1) := by decide +kernel
theorem dX2_init_75 : decode cX2_init 75 = .ok (.iload_n 1, 1) := by decide +kernel
theorem dX2_init_76 : decode cX2_init 76 = .ok (.bipush 12, 2) := by decide +kernel
theorem dX2_init_78 : decode cX2_init 78 = .ok (.if_icmp .ge 40, 3) := by decide +kernel
theorem dX2_init_81 : decode cX2_init 81 = .ok (.aload_n 0, 1) := by decide +kernel
theorem dX2_init_82 : decode cX2_init 82 = .ok (.getfield 11, 3) := by decide +kernel
theorem dX2_init_85 : decode cX2_init 85 = .ok (.iload_n 1, 1) := by decide +kernel
theorem dX2_init_86 : decode cX2_init 86 = .ok (.iconst 1, 1) := by decide +kernel
theorem dX2_init_87 : decode cX2_init 87 = .ok (.iadd, 1) := by decide +kernel
theorem dX2_init_88 : decode cX2_init 88 = .ok (.new 9, 3) := by decide +kernel
theorem dX2_init_91 : decode cX2_init 91 = .ok (.dup, 1) := by decide +kernel
theorem dX2_init_92 : decode cX2_init 92 = .ok (.iload_n 1, 1) := by decide +kernel
theorem dX2_init_93 : decode cX2_init 93 = .ok (.iconst 1, 1) := by decide +kernel
theorem dX2_init_94 : decode cX2_init 94 = .ok (.iadd, 1) := by decide +kernel
theorem dX2_init_95 : decode cX2_init 95 = .ok (.invokespecial 51, 3) := by decide +kernel
theorem dX2_init_98 : decode cX2_init 98 = .ok (.aastore, 1) := by decide +kernel
theorem dX2_init_99 : decode cX2_init 99 = .ok (.aload_n 0, 1) := by decide +kernel
theorem dX2_init_100 : decode cX2_init 100 = .ok (.getfield 19, 3) := by decide +kernel
theorem dX2_init_103 : decode cX2_init 103 = .ok (.iload_n 1, 1) := by decide +kernel
theorem dX2_init_104 : decode cX2_init 104 = .ok (.new 17, 3) := by decide +kernel
theorem dX2_init_107 : decode cX2_init 107 = .ok (.dup, 1) := by decide +kernel
theorem dX2_init_108 : decode cX2_init 108 = .ok (.invokespecial 54, 3) := by decide +kernel
theorem dX2_init_111 : decode cX2_init 111 = .ok (.aastore, 1) := by decide +kernel
theorem dX2_init_112 : decode cX2_init 112 = .ok (.iinc 1 1, 3) := by decide +kernel
theorem dX2_init_115 : decode cX2_init 115 = .ok (.goto (-40), 3) := by decide +kernel
theorem dX2_init_118 : decode cX2_init 118 = .ok (.iconst 0, 1) := by decide +kernel
theorem dX2_init_119 : decode cX2_init 119 = .ok (.istore_n 1, 1) := by decide +kernel
theorem dX2_init_120 : decode cX2_init 120 = .ok (.iload_n 1, 1) := by decide +kernel
theorem dX2_init_121 : decode cX2_init 121 = .ok (.iconst 3, 1) := by decide +kernel
theorem dX2_init_122 : decode cX2_init 122 = .ok (.if_icmp .ge 22, 3) := by decide +kernel
theorem dX2_init_125 : decode cX2_init 125 = .ok (.aload_n 0, 1) := by decide +kernel
theorem dX2_init_126 : decode cX2_init 126 = .ok (.getfield 25, 3) := by decide +kernel
theorem dX2_init_129 : decode cX2_init 129 = .ok (.iload_n 1, 1) := by decide +kernel
theorem dX2_init_130 : decode cX2_init 130 = .ok (.new 23, 3) := by decide +kernel
theorem dX2_init_133 : decode cX2_init 133 = .ok (.dup, 1) := by decide +kernel
theorem dX2_init_134 : decode cX2_init 134 = .ok (.invokespecial 55, 3) := by decide +kernel
theorem dX2_init_137 : decode cX2_init 137 = .ok (.aastore, 1) := by decide +kernel
theorem dX2_init_138 : decode cX2_init 138 = .ok (.iinc 1 1, 3) := by decide +kernel
theorem dX2_init_141 : decode cX2_init 141 = .ok (.goto (-21), 3) := by decide +kernel
theorem dX2_init_144 : decode cX2_init 144 = .ok (.iconst 0, 1) := by decide +kernel
theorem dX2_init_145 : decode cX2_init 145 = .ok (.istore_n 1, 1) := by decide +kernel
theorem dX2_init_146 : decode cX2_init 146 = .ok (.iload_n 1, 1) := by decide +kernel
theorem dX2_init_147 : decode cX2_init 147 = .ok (.bipush 8, 2) := by decide +kernel
theorem dX2_init_149 : decode cX2_init 149 = .ok (.if_icmp .ge 22, 3) := by decide +kernel
theorem dX2_init_152 : decode cX2_init 152 = .ok (.aload_n 0, 1) := by decide +kernel
theorem dX2_init_153 : decode cX2_init 153 = .ok (.getfield 33, 3) := by decide +kernel
theorem dX2_init_156 : decode cX2_init 156 = .ok (.iload_n 1, 1) := by decide +kernel
theorem dX2_init_157 : decode cX2_init 157 = .ok (.new 23, 3) := by decide +kernel
theorem dX2_init_160 : decode cX2_init 160 = .ok (.dup, 1) := by decide +kernel
theorem dX2_init_161 : decode cX2_init 161 = .ok (.invokespecial 55, 3) := by decide +kernel
theorem dX2_init_164 : decode cX2_init 164 = .ok (.aastore, 1) := by decide +kernel
theorem dX2_init_165 : decode cX2_init 165 = .ok (.iinc 1 1, 3) := by decide +kernel
theorem dX2_init_168 : decode cX2_init 168 = .ok (.goto (-22), 3) := by decide +kernel
theorem dX2_init_171 : decode cX2_init 171 = .ok (.return_, 1) := by decide +kernel
theorem dX2_find_0 : decode cX2_find 0 = .ok (.iload_n 1, 1) := by decide +kernel
theorem dX2_find_1 : decode cX2_find 1 = .ok (.iconst 1, 1) := by decide +kernel
theorem dX2_find_2 : decode cX2_find 2 = .ok (.if_icmp .lt 18, 3) := by decide +kernel
theorem dX2_find_5 : decode cX2_find 5 = .ok (.iload_n 1, 1) := by decide +kernel
theorem dX2_find_6 : decode cX2_find 6 = .ok (.bipush 12, 2) := by decide +kernel
theorem dX2_find_8 : decode cX2_find 8 = .ok (.if_icmp .gt 12, 3) := by decide +kernel
theorem dX2_find_11 : decode cX2_find 11 = .ok (.aload_n 0, 1) := by decide +kernel
theorem dX2_find_12 : decode cX2_find 12 = .ok (.getfield 11, 3) := by decide +kernel
theorem dX2_find_15 : decode cX2_find 15 = .ok (.iload_n 1, 1) := by decide +kernel
theorem dX2_find_16 : decode cX2_find 16 = .ok (.aaload, 1) := by decide +kernel
theorem dX2_find_17 : decode cX2_find 17 = .ok (.goto 4, 3) := by decide +kernel
theorem dX2_find_20 : decode cX2_find 20 = .ok (.aconst_null, 1) := by decide +kernel
theorem dX2_find_21 : decode cX2_find 21 = .ok (.areturn, 1) := by decide +kernel
theorem dX2_findChild_0 : decode cX2_findChild 0 = .ok (.aload_n 0, 1) := by decide +kernel
theorem dX2_findChild_1 : decode cX2_findChild 1 = .ok (.iload_n 2, 1) := by decide +kernel
theorem dX2_findChild_2 : decode cX2_findChild 2 = .ok (.invokevirtual 56, 3) := by decide +kernel
theorem dX2_findChild_5 : decode cX2_findChild 5 = .ok (.astore_n 3, 1) := by decide +kernel
theorem dX2_findChild_6 : decode cX2_findChild 6 = .ok (.aload_n 3, 1) := by decide +kernel
theorem dX2_findChild_7 : decode cX2_findChild 7 = .ok (.ifnull 18, 3) := by decide +kernel
theorem dX2_findChild_10 : decode cX2_findChild 10 = .ok (.aload_n 3, 1) := by decide +kernel
theorem dX2_findChild_11 : decode cX2_findChild 11 = .ok (.getfield 60, 3) := by decide +kernel
theorem dX2_findChild_14 : decode cX2_findChild 14 = .ok (.aload_n 1, 1) := by decide +kernel
theorem dX2_findChild_15 : decode cX2_findChild 15 = .ok (.getfield 63, 3) := by decide +kernel
theorem dX2_findChild_18 : decode cX2_findChild 18 = .ok (.if_icmp .ne 7, 3) := by decide +kernel
theorem dX2_findChild_21 : decode cX2_findChild 21 = .ok (.aload_n 3, 1) := by decide +kernel
theorem dX2_findChild_22 : decode cX2_findChild 22 = .ok (.goto 4, 3) := by decide +kernel
theorem dX2_findChild_25 : decode cX2_findChild 25 = .ok (.aconst_null, 1) := by decide +kernel
theorem dX2_findChild_26 : decode cX2_findChild 26 = .ok (.areturn, 1) := by decide +kernel
theorem dX2_leastFree_0 : decode cX2_leastFree 0 = .ok (.iconst 1, 1) := by decide +kernel
theorem dX2_leastFree_1 : decode cX2_leastFree 1 = .ok (.istore_n 1, 1) := by decide +kernel
theorem dX2_leastFree_2 : decode cX2_leastFree 2 = .ok (.iload_n 1, 1) := by decide +kernel
theorem dX2_leastFree_3 : decode cX2_leastFree 3 = .ok (.bipush 12, 2) := by decide +kernel
theorem dX2_leastFree_5 : decode cX2_leastFree 5 = .ok (.if_icmp .gt 28, 3) := by decide +kernel
theorem dX2_leastFree_8 : decode cX2_leastFree 8 = .ok (.aload_n 0, 1) := by decide +kernel
theorem dX2_leastFree_9 : decode cX2_leastFree 9 = .ok (.getfield 11, 3) := by decide +kernel
theorem dX2_leastFree_12 : decode cX2_leastFree 12 = .ok (.iload_n 1, 1) := by decide +kernel
theorem dX2_leastFree_13 : decode cX2_leastFree 13 = .ok (.aaload, 1) := by decide +kernel
theorem dX2_leastFree_14 : decode cX2_leastFree 14 = .ok (.getfield 66, 3) := by decide +kernel
theorem dX2_leastFree_17 : decode cX2_leastFree 17 = .ok (.ifCond .ne 10, 3) := by decide +kernel
theorem dX2_leastFree_20 : decode cX2_leastFree 20 = .ok (.aload_n 0, 1) := by decide +kernel
theorem dX2_leastFree_21 : decode cX2_leastFree 21 = .ok (.getfield 11, 3) := by decide +kernel
theorem dX2_leastFree_24 : decode cX2_leastFree 24 = .ok (.iload_n 1, 1) := by decide +kernel
theorem dX2_leastFree_25 : decode cX2_leastFree 25 = .ok (.aaload, 1) := by decide +kernel
theorem dX2_leastFree_26 : decode cX2_leastFree 26 = .ok (.areturn, 1) := by decide +kernel
theorem dX2_leastFree_27 : decode cX2_leastFree 27 = .ok (.iinc 1 1, 3) := by decide +kernel
theorem dX2_leastFree_30 : decode cX2_leastFree 30 = .ok (.goto (-28), 3) := by decide +kernel
theorem dX2_leastFree_33 : decode cX2_leastFree 33 = .ok (.aconst_null, 1) := by decide +kernel
theorem dX2_leastFree_34 : decode cX2_leastFree 34 = .ok (.areturn, 1) := by decide +kernel
theorem dX2_spareProgram_0 : decode cX2_spareProgram 0 = .ok (.iconst 0, 1) := by decide +kernel
theorem dX2_spareProgram_1 : decode cX2_spareProgram 1 = .ok (.istore_n 1, 1) := by decide +kernel
theorem dX2_spareProgram_2 : decode cX2_spareProgram 2 = .ok (.iload_n 1, 1) := by decide +kernel
theorem dX2_spareProgram_3 : decode cX2_spareProgram 3 = .ok (.bipush 12, 2) := by decide +kernel
theorem dX2_spareProgram_5 : decode cX2_spareProgram 5 = .ok (.if_icmp .ge 28, 3) := by decide +kernel
theorem dX2_spareProgram_8 : decode cX2_spareProgram 8 = .ok (.aload_n 0, 1) := by decide +kernel
theorem dX2_spareProgram_9 : decode cX2_spareProgram 9 = .ok (.getfield 19, 3) := by decide +kernel
theorem dX2_spareProgram_12 : decode cX2_spareProgram 12 = .ok (.iload_n 1, 1) := by decide +kernel
theorem dX2_spareProgram_13 : decode cX2_spareProgram 13 = .ok (.aaload, 1) := by decide +kernel
theorem dX2_spareProgram_14 : decode cX2_spareProgram 14 = .ok (.getfield 69, 3) := by decide +kernel
theorem dX2_spareProgram_17 : decode cX2_spareProgram 17 = .ok (.ifCond .ne 10, 3) := by decide +kernel
theorem dX2_spareProgram_20 : decode cX2_spareProgram 20 = .ok (.aload_n 0, 1) := by decide +kernel
theorem dX2_spareProgram_21 : decode cX2_spareProgram 21 = .ok (.getfield 19, 3) := by decide +kernel
theorem dX2_spareProgram_24 : decode cX2_spareProgram 24 = .ok (.iload_n 1, 1) := by decide +kernel
theorem dX2_spareProgram_25 : decode cX2_spareProgram 25 = .ok (.aaload, 1) := by decide +kernel
theorem dX2_spareProgram_26 : decode cX2_spareProgram 26 = .ok (.areturn, 1) := by decide +kernel
theorem dX2_spareProgram_27 : decode cX2_spareProgram 27 = .ok (.iinc 1 1, 3) := by decide +kernel
theorem dX2_spareProgram_30 : decode cX2_spareProgram 30 = .ok (.goto (-28), 3) := by decide +kernel
theorem dX2_spareProgram_33 : decode cX2_spareProgram 33 = .ok (.aconst_null, 1) := by decide +kernel
theorem dX2_spareProgram_34 : decode cX2_spareProgram 34 = .ok (.areturn, 1) := by decide +kernel
theorem dX2_taken_0 : decode cX2_taken 0 = .ok (.aload_n 1, 1) := by decide +kernel
theorem dX2_taken_1 : decode cX2_taken 1 = .ok (.aload_n 2, 1) := by decide +kernel
theorem dX2_taken_2 : decode cX2_taken 2 = .ok (.putfield 72, 3) := by decide +kernel
theorem dX2_taken_5 : decode cX2_taken 5 = .ok (.aload_n 2, 1) := by decide +kernel
theorem dX2_taken_6 : decode cX2_taken 6 = .ok (.dup, 1) := by decide +kernel
theorem dX2_taken_7 : decode cX2_taken 7 = .ok (.getfield 69, 3) := by decide +kernel
theorem dX2_taken_10 : decode cX2_taken 10 = .ok (.iconst 1, 1) := by decide +kernel
theorem dX2_taken_11 : decode cX2_taken 11 = .ok (.iadd, 1) := by decide +kernel
theorem dX2_taken_12 : decode cX2_taken 12 = .ok (.putfield 69, 3) := by decide +kernel
theorem dX2_taken_15 : decode cX2_taken 15 = .ok (.aload_n 1, 1) := by decide +kernel
theorem dX2_taken_16 : decode cX2_taken 16 = .ok (.iload_n 3, 1) := by decide +kernel
theorem dX2_taken_17 : decode cX2_taken 17 = .ok (.putfield 76, 3) := by decide +kernel
theorem dX2_taken_20 : decode cX2_taken 20 = .ok (.aload_n 0, 1) := by decide +kernel
theorem dX2_taken_21 : decode cX2_taken 21 = .ok (.aload_n 1, 1) := by decide +kernel
theorem dX2_taken_22 : decode cX2_taken 22 = .ok (.invokevirtual 79, 3) := by decide +kernel
theorem dX2_taken_25 : decode cX2_taken 25 = .ok (.return_, 1) := by decide +kernel
theorem dX2_makeReady_0 : decode cX2_makeReady 0 = .ok (.aload_n 1, 1) := by decide +kernel
theorem dX2_makeReady_1 : decode cX2_makeReady 1 = .ok (.iconst 1, 1) := by decide +kernel
theorem dX2_makeReady_2 : decode cX2_makeReady 2 = .ok (.putfield 66, 3) := by decide +kernel
theorem dX2_makeReady_5 : decode cX2_makeReady 5 = .ok (.aload_n 1, 1) := by decide +kernel
theorem dX2_makeReady_6 : decode cX2_makeReady 6 = .ok (.iconst 0, 1) := by decide +kernel
theorem dX2_makeReady_7 : decode cX2_makeReady 7 = .ok (.putfield 83, 3) := by decide +kernel
theorem dX2_makeReady_10 : decode cX2_makeReady 10 = .ok (.aload_n 1, 1) := by decide +kernel
theorem dX2_makeReady_11 : decode cX2_makeReady 11 = .ok (.iconst 0, 1) := by decide +kernel
theorem dX2_makeReady_12 : decode cX2_makeReady 12 = .ok (.putfield 86, 3) := by decide +kernel
theorem dX2_makeReady_15 : decode cX2_makeReady 15 = .ok (.aload_n 0, 1) := by decide +kernel
theorem dX2_makeReady_16 : decode cX2_makeReady 16 = .ok (.getfield 25, 3) := by decide +kernel
theorem dX2_makeReady_19 : decode cX2_makeReady 19 = .ok (.aload_n 1, 1) := by decide +kernel
theorem dX2_makeReady_20 : decode cX2_makeReady 20 = .ok (.getfield 76, 3) := by decide +kernel
theorem dX2_makeReady_23 : decode cX2_makeReady 23 = .ok (.aaload, 1) := by decide +kernel
theorem dX2_makeReady_24 : decode cX2_makeReady 24 = .ok (.aload_n 1, 1) := by decide +kernel
theorem dX2_makeReady_25 : decode cX2_makeReady 25 = .ok (.getfield 63, 3) := by decide +kernel
theorem dX2_makeReady_28 : decode cX2_makeReady 28 = .ok (.invokevirtual 89, 3) := by decide +kernel
theorem dX2_makeReady_31 : decode cX2_makeReady 31 = .ok (.return_, 1) := by decide +kernel
theorem dX2_putLast_0 : decode cX2_putLast 0 = .ok (.aload_n 0, 1) := by decide +kernel
theorem dX2_putLast_1 : decode cX2_putLast 1 = .ok (.getfield 25, 3) := by decide +kernel
theorem dX2_putLast_4 : decode cX2_putLast 4 = .ok (.aload_n 1, 1) := by decide +kernel
theorem dX2_putLast_5 : decode cX2_putLast 5 = .ok (.getfield 76, 3) := by decide +kernel
theorem dX2_putLast_8 : decode cX2_putLast 8 = .ok (.aaload, 1) := by decide +kernel
theorem dX2_putLast_9 : decode cX2_putLast 9 = .ok (.aload_n 1, 1) := by decide +kernel
theorem dX2_putLast_10 : decode cX2_putLast 10 = .ok (.getfield 63, 3) := by decide +kernel
theorem dX2_putLast_13 : decode cX2_putLast 13 = .ok (.invokevirtual 92, 3) := by decide +kernel
theorem dX2_putLast_16 : decode cX2_putLast 16 = .ok (.aload_n 1, 1) := by decide +kernel
theorem dX2_putLast_17 : decode cX2_putLast 17 = .ok (.iload_n 2, 1) := by decide +kernel
theorem dX2_putLast_18 : decode cX2_putLast 18 = .ok (.putfield 76, 3) := by decide +kernel
theorem dX2_putLast_21 : decode cX2_putLast 21 = .ok (.aload_n 0, 1) := by decide +kernel
theorem dX2_putLast_22 : decode cX2_putLast 22 = .ok (.aload_n 1, 1) := by decide +kernel
theorem dX2_putLast_23 : decode cX2_putLast 23 = .ok (.invokevirtual 79, 3) := by decide +kernel
theorem dX2_putLast_26 : decode cX2_putLast 26 = .ok (.return_, 1) := by decide +kernel
theorem dX2_suspend_0 : decode cX2_suspend 0 = .ok (.aload_n 0, 1) := by decide +kernel
theorem dX2_suspend_1 : decode cX2_suspend 1 = .ok (.getfield 25, 3) := by decide +kernel
theorem dX2_suspend_4 : decode cX2_suspend 4 = .ok (.aload_n 1, 1) := by decide +kernel
theorem dX2_suspend_5 : decode cX2_suspend 5 = .ok (.getfield 76, 3) := by decide +kernel
theorem dX2_suspend_8 : decode cX2_suspend 8 = .ok (.aaload, 1) := by decide +kernel
theorem dX2_suspend_9 : decode cX2_suspend 9 = .ok (.aload_n 1, 1) := by decide +kernel
theorem dX2_suspend_10 : decode cX2_suspend 10 = .ok (.getfield 63, 3) := by decide +kernel
theorem dX2_suspend_13 : decode cX2_suspend 13 = .ok (.invokevirtual 92, 3) := by decide +kernel
theorem dX2_suspend_16 : decode cX2_suspend 16 = .ok (.aload_n 1, 1) := by decide +kernel
theorem dX2_suspend_17 : decode cX2_suspend 17 = .ok (.iload_n 2, 1) := by decide +kernel
theorem dX2_suspend_18 : decode cX2_suspend 18 = .ok (.putfield 66, 3) := by decide +kernel
theorem dX2_suspend_21 : decode cX2_suspend 21 = .ok (.aload_n 1, 1) := by decide +kernel
theorem dX2_suspend_22 : decode cX2_suspend 22 = .ok (.iload_n 3, 1) := by decide +kernel
theorem dX2_suspend_23 : decode cX2_suspend 23 = .ok (.putfield 83, 3) := by decide +kernel
theorem dX2_suspend_26 : decode cX2_suspend 26 = .ok (.aload_n 1, 1) := by decide +kernel
theorem dX2_suspend_27 : decode cX2_suspend 27 = .ok (.iconst 0, 1) := by decide +kernel
theorem dX2_suspend_28 : decode cX2_suspend 28 = .ok (.putfield 86, 3) := by decide +kernel
theorem dX2_suspend_31 : decode cX2_suspend 31 = .ok (.return_, 1) := by decide +kernel
theorem dX2_deliver_0 : decode cX2_deliver 0 = .ok (.aload_n 1, 1) := by decide +kernel
theorem dX2_deliver_1 : decode cX2_deliver 1 = .ok (.getfield 95, 3) := by decide +kernel
theorem dX2_deliver_4 : decode cX2_deliver 4 = .ok (.iload_n 2, 1) := by decide +kernel
theorem dX2_deliver_5 : decode cX2_deliver 5 = .ok (.iload_n 3, 1) := by decide +kernel
theorem dX2_deliver_6 : decode cX2_deliver 6 = .ok (.invokevirtual 99, 3) := by decide +kernel
theorem dX2_deliver_9 : decode cX2_deliver 9 = .ok (.ifCond .ne 5, 3) := by decide +kernel
theorem dX2_deliver_12 : decode cX2_deliver 12 = .ok (.iconst 0, 1) := by decide +kernel
theorem dX2_deliver_13 : decode cX2_deliver 13 = .ok (.ireturn, 1) := by decide +kernel
theorem dX2_deliver_14 : decode cX2_deliver 14 = .ok (.aload_n 1, 1) := by decide +kernel
theorem dX2_deliver_15 : decode cX2_deliver 15 = .ok (.getfield 66, 3) := by decide +kernel
theorem dX2_deliver_18 : decode cX2_deliver 18 = .ok (.iconst 2, 1) := by decide +kernel
theorem dX2_deliver_19 : decode cX2_deliver 19 = .ok (.if_icmp .ne 8, 3) := by decide +kernel
theorem dX2_deliver_22 : decode cX2_deliver 22 = .ok (.aload_n 0, 1) := by decide +kernel
theorem dX2_deliver_23 : decode cX2_deliver 23 = .ok (.aload_n 1, 1) := by decide +kernel
theorem dX2_deliver_24 : decode cX2_deliver 24 = .ok (.invokevirtual 79, 3) := by decide +kernel
theorem dX2_deliver_27 : decode cX2_deliver 27 = .ok (.iconst 1, 1) := by decide +kernel
theorem dX2_deliver_28 : decode cX2_deliver 28 = .ok (.ireturn, 1) := by decide +kernel
theorem dX2_show_0 : decode cX2_show 0 = .ok (.aload_n 0, 1) := by decide +kernel
theorem dX2_show_1 : decode cX2_show 1 = .ok (.getfield 105, 3) := by decide +kernel
theorem dX2_show_4 : decode cX2_show 4 = .ok (.sipush 2000, 3) := by decide +kernel
theorem dX2_show_7 : decode cX2_show 7 = .ok (.if_icmp .ge 26, 3) := by decide +kernel
theorem dX2_show_10 : decode cX2_show 10 = .ok (.aload_n 0, 1) := by decide +kernel
theorem dX2_show_11 : decode cX2_show 11 = .ok (.getfield 43, 3) := by decide +kernel
theorem dX2_show_14 : decode cX2_show 14 = .ok (.aload_n 0, 1) := by decide +kernel
theorem dX2_show_15 : decode cX2_show 15 = .ok (.getfield 105, 3) := by decide +kernel
theorem dX2_show_18 : decode cX2_show 18 = .ok (.iload_n 1, 1) := by decide +kernel
theorem dX2_show_19 : decode cX2_show 19 = .ok (.iastore, 1) := by decide +kernel
theorem dX2_show_20 : decode cX2_show 20 = .ok (.aload_n 0, 1) := by decide +kernel
theorem dX2_show_21 : decode cX2_show 21 = .ok (.dup, 1) := by decide +kernel
theorem dX2_show_22 : decode cX2_show 22 = .ok (.getfield 105, 3) := by decide +kernel
theorem dX2_show_25 : decode cX2_show 25 = .ok (.iconst 1, 1) := by decide +kernel
theorem dX2_show_26 : decode cX2_show 26 = .ok (.iadd, 1) := by decide +kernel
theorem dX2_show_27 : decode cX2_show 27 = .ok (.putfield 105, 3) := by decide +kernel
theorem dX2_show_30 : decode cX2_show 30 = .ok (.goto 13, 3) := by decide +kernel
theorem dX2_show_33 : decode cX2_show 33 = .ok (.aload_n 0, 1) := by decide +kernel
theorem dX2_show_34 : decode cX2_show 34 = .ok (.dup, 1) := by decide +kernel
theorem dX2_show_35 : decode cX2_show 35 = .ok (.getfield 108, 3) := by decide +kernel
theorem dX2_show_38 : decode cX2_show 38 = .ok (.iconst 1, 1) := by decide +kernel
theorem dX2_show_39 : decode cX2_show 39 = .ok (.iadd, 1) := by decide +kernel
theorem dX2_show_40 : decode cX2_show 40 = .ok (.putfield 108, 3) := by decide +kernel
theorem dX2_show_43 : decode cX2_show 43 = .ok (.return_, 1) := by decide +kernel
theorem dX2_finish_0 : decode cX2_finish 0 = .ok (.aload_n 0, 1) := by decide +kernel
theorem dX2_finish_1 : decode cX2_finish 1 = .ok (.getfield 39, 3) := by decide +kernel
theorem dX2_finish_4 : decode cX2_finish 4 = .ok (.aload_n 1, 1) := by decide +kernel
theorem dX2_finish_5 : decode cX2_finish 5 = .ok (.getfield 63, 3) := by decide +kernel
theorem dX2_finish_8 : decode cX2_finish 8 = .ok (.iconst (-1), 1) := by decide +kernel
theorem dX2_finish_9 : decode cX2_finish 9 = .ok (.invokevirtual 111, 3) := by decide +kernel
theorem dX2_finish_12 : decode cX2_finish 12 = .ok (.iconst 0, 1) := by decide +kernel
theorem dX2_finish_13 : decode cX2_finish 13 = .ok (.istore_n 3, 1) := by decide +kernel
theorem dX2_finish_14 : decode cX2_finish 14 = .ok (.iload_n 3, 1) := by decide +kernel
theorem dX2_finish_15 : decode cX2_finish 15 = .ok (.iconst 3, 1) := by decide +kernel
theorem dX2_finish_16 : decode cX2_finish 16 = .ok (.if_icmp .ge 22, 3) := by decide +kernel
theorem dX2_finish_19 : decode cX2_finish 19 = .ok (.aload_n 0, 1) := by decide +kernel
theorem dX2_finish_20 : decode cX2_finish 20 = .ok (.getfield 25, 3) := by decide +kernel
theorem dX2_finish_23 : decode cX2_finish 23 = .ok (.iload_n 3, 1) := by decide +kernel
theorem dX2_finish_24 : decode cX2_finish 24 = .ok (.aaload, 1) := by decide +kernel
theorem dX2_finish_25 : decode cX2_finish 25 = .ok (.aload_n 1, 1) := by decide +kernel
theorem dX2_finish_26 : decode cX2_finish 26 = .ok (.getfield 63, 3) := by decide +kernel
theorem dX2_finish_29 : decode cX2_finish 29 = .ok (.invokevirtual 92, 3) := by decide +kernel
theorem dX2_finish_32 : decode cX2_finish 32 = .ok (.iinc 3 1, 3) := by decide +kernel
theorem dX2_finish_35 : decode cX2_finish 35 = .ok (.goto (-21), 3) := by decide +kernel
theorem dX2_finish_38 : decode cX2_finish 38 = .ok (.iconst 0, 1) := by decide +kernel
theorem dX2_finish_39 : decode cX2_finish 39 = .ok (.istore_n 3, 1) := by decide +kernel
theorem dX2_finish_40 : decode cX2_finish 40 = .ok (.iload_n 3, 1) := by decide +kernel
theorem dX2_finish_41 : decode cX2_finish 41 = .ok (.bipush 8, 2) := by decide +kernel
theorem dX2_finish_43 : decode cX2_finish 43 = .ok (.if_icmp .ge 22, 3) := by decide +kernel
theorem dX2_finish_46 : decode cX2_finish 46 = .ok (.aload_n 0, 1) := by decide +kernel
theorem dX2_finish_47 : decode cX2_finish 47 = .ok (.getfield 33, 3) := by decide +kernel
theorem dX2_finish_50 : decode cX2_finish 50 = .ok (.iload_n 3, 1) := by decide +kernel
theorem dX2_finish_51 : decode cX2_finish 51 = .ok (.aaload, 1) := by decide +kernel
theorem dX2_finish_52 : decode cX2_finish 52 = .ok (.aload_n 1, 1) := by decide +kernel
theorem dX2_finish_53 : decode cX2_finish 53 = .ok (.getfield 63, 3) := by decide +kernel
theorem dX2_finish_56 : decode cX2_finish 56 = .ok (.invokevirtual 92, 3) := by decide +kernel
theorem dX2_finish_59 : decode cX2_finish 59 = .ok (.iinc 3 1, 3) := by decide +kernel
theorem dX2_finish_62 : decode cX2_finish 62 = .ok (.goto (-22), 3) := by decide +kernel
theorem dX2_finish_65 : decode cX2_finish 65 = .ok (.aload_n 1, 1) := by decide +kernel
theorem dX2_finish_66 : decode cX2_finish 66 = .ok (.invokevirtual 115, 3) := by decide +kernel
theorem dX2_finish_69 : decode cX2_finish 69 = .ok (.iconst 1, 1) := by decide +kernel
theorem dX2_finish_70 : decode cX2_finish 70 = .ok (.istore_n 3, 1) := by decide +kernel
theorem dX2_finish_71 : decode cX2_finish 71 = .ok (.iload_n 3, 1) := by decide +kernel
theorem dX2_finish_72 : decode cX2_finish 72 = .ok (.bipush 12, 2) := by decide +kernel
theorem dX2_finish_74 : decode cX2_finish 74 = .ok (.if_icmp .gt 50, 3) := by decide +kernel
theorem dX2_finish_77 : decode cX2_finish 77 = .ok (.aload_n 0, 1) := by decide +kernel
theorem dX2_finish_78 : decode cX2_finish 78 = .ok (.getfield 11, 3) := by decide +kernel
theorem dX2_finish_81 : decode cX2_finish 81 = .ok (.iload_n 3, 1) := by decide +kernel
theorem dX2_finish_82 : decode cX2_finish 82 = .ok (.aaload, 1) := by decide +kernel
theorem dX2_finish_83 : decode cX2_finish 83 = .ok (.astore 4, 2) := by decide +kernel
theorem dX2_finish_85 : decode cX2_finish 85 = .ok (.aload 4, 2) := by decide +kernel
theorem dX2_finish_87 : decode cX2_finish 87 = .ok (.getfield 60, 3) := by decide +kernel
theorem dX2_finish_90 : decode cX2_finish 90 = .ok (.aload_n 1, 1) := by decide +kernel
theorem dX2_finish_91 : decode cX2_finish 91 = .ok (.getfield 63, 3) := by decide +kernel
theorem dX2_finish_94 : decode cX2_finish 94 = .ok (.if_icmp .ne 24, 3) := by decide +kernel
theorem dX2_finish_97 : decode cX2_finish 97 = .ok (.aload 4, 2) := by decide +kernel
theorem dX2_finish_99 : decode cX2_finish 99 = .ok (.iconst 0, 1) := by decide +kernel
theorem dX2_finish_100 : decode cX2_finish 100 = .ok (.putfield 60, 3) := by decide +kernel
theorem dX2_finish_103 : decode cX2_finish 103 = .ok (.aload 4, 2) := by decide +kernel
theorem dX2_finish_105 : decode cX2_finish 105 = .ok (.getfield 66, 3) := by decide +kernel
theorem dX2_finish_108 : decode cX2_finish 108 = .ok (.bipush 7, 2) := by decide +kernel
theorem dX2_finish_110 : decode cX2_finish 110 = .ok (.if_icmp .ne 8, 3) := by decide +kernel
theorem dX2_finish_113 : decode cX2_finish 113 = .ok (.aload 4, 2) := by decide +kernel
theorem dX2_finish_115 : decode cX2_finish 115 = .ok (.invokevirtual 118, 3) := by decide +kernel
theorem dX2_finish_118 : decode cX2_finish 118 = .ok (.iinc 3 1, 3) := by decide +kernel
theorem dX2_finish_121 : decode cX2_finish 121 = .ok (.goto (-50), 3) := by decide +kernel
theorem dX2_finish_124 : decode cX2_finish 124 = .ok (.aload_n 1, 1) := by decide +kernel
theorem dX2_finish_125 : decode cX2_finish 125 = .ok (.bipush 7, 2) := by decide +kernel
theorem dX2_finish_127 : decode cX2_finish 127 = .ok (.putfield 66, 3) := by decide +kernel
theorem dX2_finish_130 : decode cX2_finish 130 = .ok (.aload_n 1, 1) := by decide +kernel
theorem dX2_finish_131 : decode cX2_finish 131 = .ok (.iload_n 2, 1) := by decide +kernel
theorem dX2_finish_132 : decode cX2_finish 132 = .ok (.putfield 121, 3) := by decide +kernel
theorem dX2_finish_135 : decode cX2_finish 135 = .ok (.aload_n 0, 1) := by decide +kernel
theorem dX2_finish_136 : decode cX2_finish 136 = .ok (.aload_n 1, 1) := by decide +kernel
theorem dX2_finish_137 : decode cX2_finish 137 = .ok (.getfield 60, 3) := by decide +kernel
theorem dX2_finish_140 : decode cX2_finish 140 = .ok (.invokevirtual 56, 3) := by decide +kernel
theorem dX2_finish_143 : decode cX2_finish 143 = .ok (.astore_n 3, 1) := by decide +kernel
theorem dX2_finish_144 : decode cX2_finish 144 = .ok (.aload_n 3, 1) := by decide +kernel
theorem dX2_finish_145 : decode cX2_finish 145 = .ok (.ifnull 27, 3) := by decide +kernel
theorem dX2_finish_148 : decode cX2_finish 148 = .ok (.aload_n 3, 1) := by decide +kernel
theorem dX2_finish_149 : decode cX2_finish 149 = .ok (.getfield 66, 3) := by decide +kernel
theorem dX2_finish_152 : decode cX2_finish 152 = .ok (.iconst 3, 1) := by decide +kernel
theorem dX2_finish_153 : decode cX2_finish 153 = .ok (.if_icmp .ne 19, 3) := by decide +kernel
theorem dX2_finish_156 : decode cX2_finish 156 = .ok (.aload_n 3, 1) := by decide +kernel
theorem dX2_finish_157 : decode cX2_finish 157 = .ok (.getfield 83, 3) := by decide +kernel
theorem dX2_finish_160 : decode cX2_finish 160 = .ok (.aload_n 1, 1) := by decide +kernel
theorem dX2_finish_161 : decode cX2_finish 161 = .ok (.getfield 63, 3) := by decide +kernel
theorem dX2_finish_164 : decode cX2_finish 164 = .ok (.if_icmp .ne 8, 3) := by decide +kernel
theorem dX2_finish_167 : decode cX2_finish 167 = .ok (.aload_n 0, 1) := by decide +kernel
theorem dX2_finish_168 : decode cX2_finish 168 = .ok (.aload_n 3, 1) := by decide +kernel
theorem dX2_finish_169 : decode cX2_finish 169 = .ok (.invokevirtual 79, 3) := by decide +kernel
theorem dX2_finish_172 : decode cX2_finish 172 = .ok (.return_, 1) := by decide +kernel
theorem dX2_putToSleep_0 : decode cX2_putToSleep 0 = .ok (.aload_n 0, 1) := by decide +kernel
theorem dX2_putToSleep_1 : decode cX2_putToSleep 1 = .ok (.getfield 124, 3) := by decide +kernel
theorem dX2_putToSleep_4 : decode cX2_putToSleep 4 = .ok (.i2l, 1) := by decide +kernel
theorem dX2_putToSleep_5 : decode cX2_putToSleep 5 = .ok (.iload_n 2, 1) := by decide +kernel
theorem dX2_putToSleep_6 : decode cX2_putToSleep 6 = .ok (.i2l, 1) := by decide +kernel
theorem dX2_putToSleep_7 : decode cX2_putToSleep 7 = .ok (.ladd, 1) := by decide +kernel
theorem dX2_putToSleep_8 : decode cX2_putToSleep 8 = .ok (.ldc2_w 127, 3) := by decide +kernel
theorem dX2_putToSleep_11 : decode cX2_putToSleep 11 = .ok (.invokestatic 129, 3) := by decide +kernel
theorem dX2_putToSleep_14 : decode cX2_putToSleep 14 = .ok (.l2i, 1) := by decide +kernel
theorem dX2_putToSleep_15 : decode cX2_putToSleep 15 = .ok (.istore_n 3, 1) := by decide +kernel
theorem dX2_putToSleep_16 : decode cX2_putToSleep 16 = .ok (.aload_n 0, 1) := by decide +kernel
theorem dX2_putToSleep_17 : decode cX2_putToSleep 17 = .ok (.aload_n 0, 1) := by decide +kernel
theorem dX2_putToSleep_18 : decode cX2_putToSleep 18 = .ok (.getfield 47, 3) := by decide +kernel
theorem dX2_putToSleep_21 : decode cX2_putToSleep 21 = .ok (.iload_n 3, 1) := by decide +kernel
theorem dX2_putToSleep_22 : decode cX2_putToSleep 22 = .ok (.invokestatic 135, 3) := by decide +kernel
theorem dX2_putToSleep_25 : decode cX2_putToSleep 25 = .ok (.putfield 47, 3) := by decide +kernel
theorem dX2_putToSleep_28 : decode cX2_putToSleep 28 = .ok (.aload_n 0, 1) := by decide +kernel
theorem dX2_putToSleep_29 : decode cX2_putToSleep 29 = .ok (.aload_n 1, 1) := by decide +kernel
theorem dX2_putToSleep_30 : decode cX2_putToSleep 30 = .ok (.iconst 5, 1) := by decide +kernel
theorem dX2_putToSleep_31 : decode cX2_putToSleep 31 = .ok (.iload_n 3, 1) := by decide +kernel
theorem dX2_putToSleep_32 : decode cX2_putToSleep 32 = .ok (.invokevirtual 138, 3) := by decide +kernel
theorem dX2_putToSleep_35 : decode cX2_putToSleep 35 = .ok (.return_, 1) := by decide +kernel
theorem dX2_wakeSleepers_0 : decode cX2_wakeSleepers 0 = .ok (.aload_n 0, 1) := by decide +kernel
theorem dX2_wakeSleepers_1 : decode cX2_wakeSleepers 1 = .ok (.ldc 46, 2) := by decide +kernel
theorem dX2_wakeSleepers_3 : decode cX2_wakeSleepers 3 = .ok (.putfield 47, 3) := by decide +kernel
theorem dX2_wakeSleepers_6 : decode cX2_wakeSleepers 6 = .ok (.iconst 1, 1) := by decide +kernel
theorem dX2_wakeSleepers_7 : decode cX2_wakeSleepers 7 = .ok (.istore_n 1, 1) := by decide +kernel
theorem dX2_wakeSleepers_8 : decode cX2_wakeSleepers 8 = .ok (.iload_n 1, 1) := by decide +kernel
theorem dX2_wakeSleepers_9 : decode cX2_wakeSleepers 9 = .ok (.bipush 12, 2) := by decide +kernel
theorem dX2_wakeSleepers_11 : decode cX2_wakeSleepers 11 = .ok (.if_icmp .gt 66, 3) := by decide +kernel
theorem dX2_wakeSleepers_14 : decode cX2_wakeSleepers 14 = .ok (.aload_n 0, 1) := by decide +kernel
theorem dX2_wakeSleepers_15 : decode cX2_wakeSleepers 15 = .ok (.getfield 11, 3) := by decide +kernel
theorem dX2_wakeSleepers_18 : decode cX2_wakeSleepers 18 = .ok (.iload_n 1, 1) := by decide +kernel
theorem dX2_wakeSleepers_19 : decode cX2_wakeSleepers 19 = .ok (.aaload, 1) := by decide +kernel
theorem dX2_wakeSleepers_20 : decode cX2_wakeSleepers 20 = .ok (.astore_n 2, 1) := by decide +kernel
theorem dX2_wakeSleepers_21 : decode cX2_wakeSleepers 21 = .ok (.aload_n 2, 1) := by decide +kernel
theorem dX2_wakeSleepers_22 : decode cX2_wakeSleepers 22 = .ok (.getfield 66, 3) := by decide +kernel
theorem dX2_wakeSleepers_25 : decode cX2_wakeSleepers 25 = .ok (.iconst 5, 1) := by decide +kernel
theorem dX2_wakeSleepers_26 : decode cX2_wakeSleepers 26 = .ok (.if_icmp .ne 22, 3) := by decide +kernel
theorem dX2_wakeSleepers_29 : decode cX2_wakeSleepers 29 = .ok (.aload_n 2, 1) := by decide +kernel
theorem dX2_wakeSleepers_30 : decode cX2_wakeSleepers 30 = .ok (.getfield 83, 3) := by decide +kernel
theorem dX2_wakeSleepers_33 : decode cX2_wakeSleepers 33 = .ok (.aload_n 0, 1) := by decide +kernel
theorem dX2_wakeSleepers_34 : decode cX2_wakeSleepers 34 = .ok (.getfield 124, 3) := by decide +kernel
theorem dX2_wakeSleepers_37 : decode cX2_wakeSleepers 37 = .ok (.if_icmp .gt 11, 3) := by decide +kernel
theorem dX2_wakeSleepers_40 : decode cX2_wakeSleepers 40 = .ok (.aload_n 0, 1) := by decide +kernel
theorem dX2_wakeSleepers_41 : decode cX2_wakeSleepers 41 = .ok (.aload_n 2, 1) := by decide +kernel
theorem dX2_wakeSleepers_42 : decode cX2_wakeSleepers 42 = .ok (.invokevirtual 79, 3) := by decide +kernel
theorem dX2_wakeSleepers_45 : decode cX2_wakeSleepers 45 = .ok (.goto 26, 3) := by decide +kernel
theorem dX2_wakeSleepers_48 : decode cX2_wakeSleepers 48 = .ok (.aload_n 2, 1) := by decide +kernel
theorem dX2_wakeSleepers_49 : decode cX2_wakeSleepers 49 = .ok (.getfield 66, 3) := by decide +kernel
theorem dX2_wakeSleepers_52 : decode cX2_wakeSleepers 52 = .ok (.iconst 5, 1) := by decide +kernel
theorem dX2_wakeSleepers_53 : decode cX2_wakeSleepers 53 = .ok (.if_icmp .ne 18, 3) := by decide +kernel
theorem dX2_wakeSleepers_56 : decode cX2_wakeSleepers 56 = .ok (.aload_n 0, 1) := by decide +kernel
theorem dX2_wakeSleepers_57 : decode cX2_wakeSleepers 57 = .ok (.aload_n 0, 1) := by decide +kernel
theorem dX2_wakeSleepers_58 : decode cX2_wakeSleepers 58 = .ok (.getfield 47, 3) := by decide +kernel
theorem dX2_wakeSleepers_61 : decode cX2_wakeSleepers 61 = .ok (.aload_n 2, 1) := by decide +kernel
theorem dX2_wakeSleepers_62 : decode cX2_wakeSleepers 62 = .ok (.getfield 83, 3) := by decide +kernel
theorem dX2_wakeSleepers_65 : decode cX2_wakeSleepers 65 = .ok (.invokestatic 135, 3) := by decide +kernel
theorem dX2_wakeSleepers_68 : decode cX2_wakeSleepers 68 = .ok (.putfield 47, 3) := by decide +kernel
theorem dX2_wakeSleepers_71 : decode cX2_wakeSleepers 71 = .ok (.iinc 1 1, 3) := by decide +kernel
theorem dX2_wakeSleepers_74 : decode cX2_wakeSleepers 74 = .ok (.goto (-66), 3) := by decide +kernel
theorem dX2_wakeSleepers_77 : decode cX2_wakeSleepers 77 = .ok (.return_, 1) := by decide +kernel
theorem dX2_firstReady_0 : decode cX2_firstReady 0 = .ok (.iconst 0, 1) := by decide +kernel
theorem dX2_firstReady_1 : decode cX2_firstReady 1 = .ok (.istore_n 1, 1) := by decide +kernel
theorem dX2_firstReady_2 : decode cX2_firstReady 2 = .ok (.iload_n 1, 1) := by decide +kernel
theorem dX2_firstReady_3 : decode cX2_firstReady 3 = .ok (.iconst 3, 1) := by decide +kernel
theorem dX2_firstReady_4 : decode cX2_firstReady 4 = .ok (.if_icmp .ge 35, 3) := by decide +kernel
theorem dX2_firstReady_7 : decode cX2_firstReady 7 = .ok (.aload_n 0, 1) := by decide +kernel
theorem dX2_firstReady_8 : decode cX2_firstReady 8 = .ok (.getfield 25, 3) := by decide +kernel
theorem dX2_firstReady_11 : decode cX2_firstReady 11 = .ok (.iload_n 1, 1) := by decide +kernel
theorem dX2_firstReady_12 : decode cX2_firstReady 12 = .ok (.aaload, 1) := by decide +kernel
theorem dX2_firstReady_13 : decode cX2_firstReady 13 = .ok (.getfield 142, 3) := by decide +kernel
theorem dX2_firstReady_16 : decode cX2_firstReady 16 = .ok (.ifCond .le 17, 3) := by decide +kernel
theorem dX2_firstReady_19 : decode cX2_firstReady 19 = .ok (.aload_n 0, 1) := by decide +kernel
theorem dX2_firstReady_20 : decode cX2_firstReady 20 = .ok (.aload_n 0, 1) := by decide +kernel
theorem dX2_firstReady_21 : decode cX2_firstReady 21 = .ok (.getfield 25, 3) := by decide +kernel
theorem dX2_firstReady_24 : decode cX2_firstReady 24 = .ok (.iload_n 1, 1) := by decide +kernel
theorem dX2_firstReady_25 : decode cX2_firstReady 25 = .ok (.aaload, 1) := by decide +kernel
theorem dX2_firstReady_26 : decode cX2_firstReady 26 = .ok (.invokevirtual 145, 3) := by decide +kernel
theorem dX2_firstReady_29 : decode cX2_firstReady 29 = .ok (.invokevirtual 56, 3) := by decide +kernel
theorem dX2_firstReady_32 : decode cX2_firstReady 32 = .ok (.areturn, 1) := by decide +kernel
theorem dX2_firstReady_33 : decode cX2_firstReady 33 = .ok (.iinc 1 1, 3) := by decide +kernel
theorem dX2_firstReady_36 : decode cX2_firstReady 36 = .ok (.goto (-34), 3) := by decide +kernel
theorem dX2_firstReady_39 : decode cX2_firstReady 39 = .ok (.aconst_null, 1) := by decide +kernel
theorem dX2_firstReady_40 : decode cX2_firstReady 40 = .ok (.areturn, 1) := by decide +kernel
theorem dX2_countFrom_0 : decode cX2_countFrom 0 = .ok (.iconst 0, 1) := by decide +kernel
theorem dX2_countFrom_1 : decode cX2_countFrom 1 = .ok (.istore_n 3, 1) := by decide +kernel
theorem dX2_countFrom_2 : decode cX2_countFrom 2 = .ok (.iconst 1, 1) := by decide +kernel
theorem dX2_countFrom_3 : decode cX2_countFrom 3 = .ok (.istore 4, 2) := by decide +kernel
theorem dX2_countFrom_5 : decode cX2_countFrom 5 = .ok (.iload 4, 2) := by decide +kernel
theorem dX2_countFrom_7 : decode cX2_countFrom 7 = .ok (.bipush 12, 2) := by decide +kernel
theorem dX2_countFrom_9 : decode cX2_countFrom 9 = .ok (.if_icmp .gt 40, 3) := by decide +kernel
theorem dX2_countFrom_12 : decode cX2_countFrom 12 = .ok (.aload_n 0, 1) := by decide +kernel
theorem dX2_countFrom_13 : decode cX2_countFrom 13 = .ok (.getfield 11, 3) := by decide +kernel
theorem dX2_countFrom_16 : decode cX2_countFrom 16 = .ok (.iload 4, 2) := by decide +kernel
theorem dX2_countFrom_18 : decode cX2_countFrom 18 = .ok (.aaload, 1) := by decide +kernel
theorem dX2_countFrom_19 : decode cX2_countFrom 19 = .ok (.getfield 66, 3) := by decide +kernel
theorem dX2_countFrom_22 : decode cX2_countFrom 22 = .ok (.iload_n 1, 1) := by decide +kernel
theorem dX2_countFrom_23 : decode cX2_countFrom 23 = .ok (.if_icmp .lt 20, 3) := by decide +kernel
theorem dX2_countFrom_26 : decode cX2_countFrom 26 = .ok (.aload_n 0, 1) := by decide +kernel
theorem dX2_countFrom_27 : decode cX2_countFrom 27 = .ok (.getfield 11, 3) := by decide +kernel
theorem dX2_countFrom_30 : decode cX2_countFrom 30 = .ok (.iload 4, 2) := by decide +kernel
theorem dX2_countFrom_32 : decode cX2_countFrom 32 = .ok (.aaload, 1) := by decide +kernel
theorem dX2_countFrom_33 : decode cX2_countFrom 33 = .ok (.getfield 66, 3) := by decide +kernel
theorem dX2_countFrom_36 : decode cX2_countFrom 36 = .ok (.iload_n 2, 1) := by decide +kernel
theorem dX2_countFrom_37 : decode cX2_countFrom 37 = .ok (.if_icmp .gt 6, 3) := by decide +kernel
theorem dX2_countFrom_40 : decode cX2_countFrom 40 = .ok (.iinc 3 1, 3) := by decide +kernel
theorem dX2_countFrom_43 : decode cX2_countFrom 43 = .ok (.iinc 4 1, 3) := by decide +kernel
theorem dX2_countFrom_46 : decode cX2_countFrom 46 = .ok (.goto (-41), 3) := by decide +kernel
theorem dX2_countFrom_49 : decode cX2_countFrom 49 = .ok (.iload_n 3, 1) := by decide +kernel
theorem dX2_countFrom_50 : decode cX2_countFrom 50 = .ok (.ireturn, 1) := by decide +kernel
theorem dX2_programsInUse_0 : decode cX2_programsInUse 0 = .ok (.iconst 0, 1) := by decide +kernel
theorem dX2_programsInUse_1 : decode cX2_programsInUse 1 = .ok (.istore_n 1, 1) := by decide +kernel
theorem dX2_programsInUse_2 : decode cX2_programsInUse 2 = .ok (.iconst 0, 1) := by decide +kernel
theorem dX2_programsInUse_3 : decode cX2_programsInUse 3 = .ok (.istore_n 2, 1) := by decide +kernel
theorem dX2_programsInUse_4 : decode cX2_programsInUse 4 = .ok (.iload_n 2, 1) := by decide +kernel
theorem dX2_programsInUse_5 : decode cX2_programsInUse 5 = .ok (.bipush 12, 2) := by decide +kernel
theorem dX2_programsInUse_7 : decode cX2_programsInUse 7 = .ok (.if_icmp .ge 24, 3) := by decide +kernel
theorem dX2_programsInUse_10 : decode cX2_programsInUse 10 = .ok (.aload_n 0, 1) := by decide +kernel
theorem dX2_programsInUse_11 : decode cX2_programsInUse 11 = .ok (.getfield 19, 3) := by decide +kernel
theorem dX2_programsInUse_14 : decode cX2_programsInUse 14 = .ok (.iload_n 2, 1) := by decide +kernel
theorem dX2_programsInUse_15 : decode cX2_programsInUse 15 = .ok (.aaload, 1) := by decide +kernel
theorem dX2_programsInUse_16 : decode cX2_programsInUse 16 = .ok (.getfield 69, 3) := by decide +kernel
theorem dX2_programsInUse_19 : decode cX2_programsInUse 19 = .ok (.ifCond .le 6, 3) := by decide +kernel
theorem dX2_programsInUse_22 : decode cX2_programsInUse 22 = .ok (.iinc 1 1, 3) := by decide +kernel
theorem dX2_programsInUse_25 : decode cX2_programsInUse 25 = .ok (.iinc 2 1, 3) := by decide +kernel
theorem dX2_programsInUse_28 : decode cX2_programsInUse 28 = .ok (.goto (-24), 3) := by decide +kernel
theorem dX2_programsInUse_31 : decode cX2_programsInUse 31 = .ok (.iload_n 1, 1) := by decide +kernel
theorem dX2_programsInUse_32 : decode cX2_programsInUse 32 = .ok (.ireturn, 1) := by decide +kernel
theorem dX2_instructionsInUse_0 : decode cX2_instructionsInUse 0 = .ok (.iconst 0, 1) := by decide +kernel
theorem dX2_instructionsInUse_1 : decode cX2_instructionsInUse 1 = .ok (.istore_n 1, 1) := by decide +kernel
theorem dX2_instructionsInUse_2 : decode cX2_instructionsInUse 2 = .ok (.iconst 0, 1) := by decide +kernel
theorem dX2_instructionsInUse_3 : decode cX2_instructionsInUse 3 = .ok (.istore_n 2, 1) := by decide +kernel
theorem dX2_instructionsInUse_4 : decode cX2_instructionsInUse 4 = .ok (.iload_n 2, 1) := by decide +kernel
theorem dX2_instructionsInUse_5 : decode cX2_instructionsInUse 5 = .ok (.bipush 12, 2) := by decide +kernel
theorem dX2_instructionsInUse_7 : decode cX2_instructionsInUse 7 = .ok (.if_icmp .ge 33, 3) := by decide +kernel
theorem dX2_instructionsInUse_10 : decode cX2_instructionsInUse 10 = .ok (.aload_n 0, 1) := by decide +kernel
theorem dX2_instructionsInUse_11 : decode cX2_instructionsInUse 11 = .ok (.getfield 19, 3) := by decide +kernel
theorem dX2_instructionsInUse_14 : decode cX2_instructionsInUse 14 = .ok (.iload_n 2, 1) := by decide +kernel
theorem dX2_instructionsInUse_15 : decode cX2_instructionsInUse 15 = .ok (.aaload, 1) := by decide +kernel
theorem dX2_instructionsInUse_16 : decode cX2_instructionsInUse 16 = .ok (.getfield 69, 3) := by decide +kernel
theorem dX2_instructionsInUse_19 : decode cX2_instructionsInUse 19 = .ok (.ifCond .le 15, 3) := by decide +kernel
theorem dX2_instructionsInUse_22 : decode cX2_instructionsInUse 22 = .ok (.iload_n 1, 1) := by decide +kernel
theorem dX2_instructionsInUse_23 : decode cX2_instructionsInUse 23 = .ok (.aload_n 0, 1) := by decide +kernel
theorem dX2_instructionsInUse_24 : decode cX2_instructionsInUse 24 = .ok (.getfield 19, 3) := by decide +kernel
theorem dX2_instructionsInUse_27 : decode cX2_instructionsInUse 27 = .ok (.iload_n 2, 1) := by decide +kernel
theorem dX2_instructionsInUse_28 : decode cX2_instructionsInUse 28 = .ok (.aaload, 1) := by decide +kernel
theorem dX2_instructionsInUse_29 : decode cX2_instructionsInUse 29 = .ok (.getfield 149, 3) := by decide +kernel
theorem dX2_instructionsInUse_32 : decode cX2_instructionsInUse 32 = .ok (.iadd, 1) := by decide +kernel
theorem dX2_instructionsInUse_33 : decode cX2_instructionsInUse 33 = .ok (.istore_n 1, 1) := by decide +kernel
theorem dX2_instructionsInUse_34 : decode cX2_instructionsInUse 34 = .ok (.iinc 2 1, 3) := by decide +kernel
theorem dX2_instructionsInUse_37 : decode cX2_instructionsInUse 37 = .ok (.goto (-33), 3) := by decide +kernel
theorem dX2_instructionsInUse_40 : decode cX2_instructionsInUse 40 = .ok (.iload_n 1, 1) := by decide +kernel
theorem dX2_instructionsInUse_41 : decode cX2_instructionsInUse 41 = .ok (.ireturn, 1) := by decide +kernel
theorem dX3_init_0 : decode cX3_init 0 = .ok (.aload_n 0, 1) := by decide +kernel
theorem dX3_init_1 : decode cX3_init 1 = .ok (.invokespecial 3, 3) := by decide +kernel
theorem dX3_init_4 : decode cX3_init 4 = .ok (.aload_n 0, 1) := by decide +kernel
theorem dX3_init_5 : decode cX3_init 5 = .ok (.sipush 1024, 3) := by decide +kernel
theorem dX3_init_8 : decode cX3_init 8 = .ok (.newarray .int, 2) := by decide +kernel
theorem dX3_init_10 : decode cX3_init 10 = .ok (.putfield 9, 3) := by decide +kernel
theorem dX3_init_13 : decode cX3_init 13 = .ok (.aload_n 0, 1) := by decide +kernel
theorem dX3_init_14 : decode cX3_init 14 = .ok (.sipush 1024, 3) := by decide +kernel
theorem dX3_init_17 : decode cX3_init 17 = .ok (.newarray .int, 2) := by decide +kernel
theorem dX3_init_19 : decode cX3_init 19 = .ok (.putfield 15, 3) := by decide +kernel
theorem dX3_init_22 : decode cX3_init 22 = .ok (.aload_n 0, 1) := by decide +kernel
theorem dX3_init_23 : decode cX3_init 23 = .ok (.sipush 1024, 3) := by decide +kernel
theorem dX3_init_26 : decode cX3_init 26 = .ok (.newarray .int, 2) := by decide +kernel
theorem dX3_init_28 : decode cX3_init 28 = .ok (.putfield 18, 3) := by decide +kernel
theorem dX3_init_31 : decode cX3_init 31 = .ok (.aload_n 0, 1) := by decide +kernel
theorem dX3_init_32 : decode cX3_init 32 = .ok (.getfield 18, 3) := by decide +kernel
theorem dX3_init_35 : decode cX3_init 35 = .ok (.iconst 0, 1) := by decide +kernel
theorem dX3_init_36 : decode cX3_init 36 = .ok (.sipush 1024, 3) := by decide +kernel
theorem dX3_init_39 : decode cX3_init 39 = .ok (.iastore, 1) := by decide +kernel
theorem dX3_init_40 : decode cX3_init 40 = .ok (.return_, 1) := by decide +kernel
theorem dX3_take_0 : decode cX3_take 0 = .ok (.iload_n 1, 1) := by decide +kernel
theorem dX3_take_1 : decode cX3_take 1 = .ok (.iconst 1, 1) := by decide +kernel
theorem dX3_take_2 : decode cX3_take 2 = .ok (.if_icmp .lt 10, 3) := by decide +kernel
theorem dX3_take_5 : decode cX3_take 5 = .ok (.iload_n 1, 1) := by decide +kernel
theorem dX3_take_6 : decode cX3_take 6 = .ok (.sipush 1024, 3) := by decide +kernel
theorem dX3_take_9 : decode cX3_take 9 = .ok (.if_icmp .le 5, 3) := by decide +kernel
theorem dX3_take_12 : decode cX3_take 12 = .ok (.iconst (-1), 1) := by decide +kernel
theorem dX3_take_13 : decode cX3_take 13 = .ok (.ireturn, 1) := by decide +kernel
theorem dX3_take_14 : decode cX3_take 14 = .ok (.iconst 0, 1) := by decide +kernel
theorem dX3_take_15 : decode cX3_take 15 = .ok (.istore_n 3, 1) := by decide +kernel
theorem dX3_take_16 : decode cX3_take 16 = .ok (.iload_n 3, 1) := by decide +kernel
theorem dX3_take_17 : decode cX3_take 17 = .ok (.sipush 1024, 3) := by decide +kernel
theorem dX3_take_20 : decode cX3_take 20 = .ok (.if_icmp .ge 47, 3) := by decide +kernel
theorem dX3_take_23 : decode cX3_take 23 = .ok (.aload_n 0, 1) := by decide +kernel
theorem dX3_take_24 : decode cX3_take 24 = .ok (.getfield 15, 3) := by decide +kernel
theorem dX3_take_27 : decode cX3_take 27 = .ok (.iload_n 3, 1) := by decide +kernel
theorem dX3_take_28 : decode cX3_take 28 = .ok (.iaload, 1) := by decide +kernel
theorem dX3_take_29 : decode cX3_take 29 = .ok (.ifCond .ne 22, 3) := by decide +kernel
theorem dX3_take_32 : decode cX3_take 32 = .ok (.aload_n 0, 1) := by decide +kernel
theorem dX3_take_33 : decode cX3_take 33 = .ok (.getfield 18, 3) := by decide +kernel
theorem dX3_take_36 : decode cX3_take 36 = .ok (.iload_n 3, 1) := by decide +kernel
theorem dX3_take_37 : decode cX3_take 37 = .ok (.iaload, 1) := by decide +kernel
theorem dX3_take_38 : decode cX3_take 38 = .ok (.iload_n 1, 1) := by decide +kernel
theorem dX3_take_39 : decode cX3_take 39 = .ok (.if_icmp .lt 12, 3) := by decide +kernel
theorem dX3_take_42 : decode cX3_take 42 = .ok (.aload_n 0, 1) := by decide +kernel
theorem dX3_take_43 : decode cX3_take 43 = .ok (.iload_n 3, 1) := by decide +kernel
theorem dX3_take_44 : decode cX3_take 44 = .ok (.iload_n 1, 1) := by decide +kernel
theorem dX3_take_45 : decode cX3_take 45 = .ok (.iload_n 2, 1) := by decide +kernel
theorem dX3_take_46 : decode cX3_take 46 = .ok (.invokevirtual 21, 3) := by decide +kernel
theorem dX3_take_49 : decode cX3_take 49 = .ok (.iload_n 3, 1) := by decide +kernel
theorem dX3_take_50 : decode cX3_take 50 = .ok (.ireturn, 1) := by decide +kernel
theorem dX3_take_51 : decode cX3_take 51 = .ok (.iload_n 3, 1) := by decide +kernel
theorem dX3_take_52 : decode cX3_take 52 = .ok (.aload_n 0, 1) := by decide +kernel
theorem dX3_take_53 : decode cX3_take 53 = .ok (.getfield 18, 3) := by decide +kernel
theorem dX3_take_56 : decode cX3_take 56 = .ok (.iload_n 3, 1) := by decide +kernel
theorem dX3_take_57 : decode cX3_take 57 = .ok (.iaload, 1) := by decide +kernel
theorem dX3_take_58 : decode cX3_take 58 = .ok (.iconst 1, 1) := by decide +kernel
theorem dX3_take_59 : decode cX3_take 59 = .ok (.invokestatic 25, 3) := by decide +kernel
theorem dX3_take_62 : decode cX3_take 62 = .ok (.iadd, 1) := by decide +kernel
theorem dX3_take_63 : decode cX3_take 63 = .ok (.istore_n 3, 1) := by decide +kernel
theorem dX3_take_64 : decode cX3_take 64 = .ok (.goto (-48), 3) := by decide +kernel
theorem dX3_take_67 : decode cX3_take 67 = .ok (.iconst (-1), 1) := by decide +kernel
theorem dX3_take_68 : decode cX3_take 68 = .ok (.ireturn, 1) := by decide +kernel
theorem dX3_cut_0 : decode cX3_cut 0 = .ok (.iload_n 1, 1) := by decide +kernel
theorem dX3_cut_1 : decode cX3_cut 1 = .ok (.iload_n 2, 1) := by decide +kernel
theorem dX3_cut_2 : decode cX3_cut 2 = .ok (.iadd, 1) := by decide +kernel
theorem dX3_cut_3 : decode cX3_cut 3 = .ok (.istore 4, 2) := by decide +kernel
theorem dX3_cut_5 : decode cX3_cut 5 = .ok (.aload_n 0, 1) := by decide +kernel
theorem dX3_cut_6 : decode cX3_cut 6 = .ok (.getfield 18, 3) := by decide +kernel
theorem dX3_cut_9 : decode cX3_cut 9 = .ok (.iload_n 1, 1) := by decide +kernel
theorem dX3_cut_10 : decode cX3_cut 10 = .ok (.iaload, 1) := by decide +kernel
theorem dX3_cut_11 : decode cX3_cut 11 = .ok (.iload_n 2, 1) := by decide +kernel
theorem dX3_cut_12 : decode cX3_cut 12 = .ok (.isub, 1) := by decide +kernel
theorem dX3_cut_13 : decode cX3_cut 13 = .ok (.istore 5, 2) := by decide +kernel
theorem dX3_cut_15 : decode cX3_cut 15 = .ok (.iload 4, 2) := by decide +kernel
theorem dX3_cut_17 : decode cX3_cut 17 = .ok (.sipush 1024, 3) := by decide +kernel
theorem dX3_cut_20 : decode cX3_cut 20 = .ok (.if_icmp .ge 17, 3) := by decide +kernel
theorem dX3_cut_23 : decode cX3_cut 23 = .ok (.iload 5, 2) := by decide +kernel
theorem dX3_cut_25 : decode cX3_cut 25 = .ok (.ifCond .le 12, 3) := by decide +kernel
theorem dX3_cut_28 : decode cX3_cut 28 = .ok (.aload_n 0, 1) := by decide +kernel
theorem dX3_cut_29 : decode cX3_cut 29 = .ok (.getfield 18, 3) := by decide +kernel
theorem dX3_cut_32 : decode cX3_cut 32 = .ok (.iload 4, 2) := by decide +kernel
theorem dX3_cut_34 : decode cX3_cut 34 = .ok (.iload 5, 2) := by decide +kernel
theorem dX3_cut_36 : decode cX3_cut 36 = .ok (.iastore, 1) := by decide +kernel
theorem dX3_cut_37 : decode cX3_cut 37 = .ok (.aload_n 0, 1) := by decide +kernel
theorem dX3_cut_38 : decode cX3_cut 38 = .ok (.getfield 18, 3) := by decide +kernel
theorem dX3_cut_41 : decode cX3_cut 41 = .ok (.iload_n 1, 1) := by decide +kernel
theorem dX3_cut_42 : decode cX3_cut 42 = .ok (.iload_n 2, 1) := by decide +kernel
theorem dX3_cut_43 : decode cX3_cut 43 = .ok (.iastore, 1) := by decide +kernel
theorem dX3_cut_44 : decode cX3_cut 44 = .ok (.iload 4, 2) := by decide +kernel
theorem dX3_cut_46 : decode cX3_cut 46 = .ok (.sipush 1024, 3) := by decide +kernel
theorem dX3_cut_49 : decode cX3_cut 49 = .ok (.if_icmp .gt 25, 3) := by decide +kernel
theorem dX3_cut_52 : decode cX3_cut 52 = .ok (.aload_n 0, 1) := by decide +kernel
theorem dX3_cut_53 : decode cX3_cut 53 = .ok (.getfield 9, 3) := by decide +kernel
theorem dX3_cut_56 : decode cX3_cut 56 = .ok (.iload_n 1, 1) := by decide +kernel
theorem dX3_cut_57 : decode cX3_cut 57 = .ok (.iload 4, 2) := by decide +kernel
theorem dX3_cut_59 : decode cX3_cut 59 = .ok (.iconst 0, 1) := by decide +kernel
theorem dX3_cut_60 : decode cX3_cut 60 = .ok (.invokestatic 31, 3) := by decide +kernel
theorem dX3_cut_63 : decode cX3_cut 63 = .ok (.aload_n 0, 1) := by decide +kernel
theorem dX3_cut_64 : decode cX3_cut 64 = .ok (.getfield 15, 3) := by decide +kernel
theorem dX3_cut_67 : decode cX3_cut 67 = .ok (.iload_n 1, 1) := by decide +kernel
theorem dX3_cut_68 : decode cX3_cut 68 = .ok (.iload 4, 2) := by decide +kernel
theorem dX3_cut_70 : decode cX3_cut 70 = .ok (.iload_n 3, 1) := by decide +kernel
theorem dX3_cut_71 : decode cX3_cut 71 = .ok (.invokestatic 31, 3) := by decide +kernel
theorem dX3_cut_74 : decode cX3_cut 74 = .ok (.return_, 1) := by decide +kernel
theorem dX3_holds_0 : decode cX3_holds 0 = .ok (.iload_n 2, 1) := by decide +kernel
theorem dX3_holds_1 : decode cX3_holds 1 = .ok (.ifCond .lt 24, 3) := by decide +kernel
theorem dX3_holds_4 : decode cX3_holds 4 = .ok (.iload_n 2, 1) := by decide +kernel
theorem dX3_holds_5 : decode cX3_holds 5 = .ok (.sipush 1024, 3) := by decide +kernel
theorem dX3_holds_8 : decode cX3_holds 8 = .ok (.if_icmp .ge 17, 3) := by decide +kernel
theorem dX3_holds_11 : decode cX3_holds 11 = .ok (.aload_n 0, 1) := by decide +kernel
theorem dX3_holds_12 : decode cX3_holds 12 = .ok (.getfield 15, 3) := by decide +kernel
theorem dX3_holds_15 : decode cX3_holds 15 = .ok (.iload_n 2, 1) := by decide +kernel
theorem dX3_holds_16 : decode cX3_holds 16 = .ok (.iaload, 1) := by decide +kernel
theorem dX3_holds_17 : decode cX3_holds 17 = .ok (.iload_n 1, 1) := by decide +kernel
theorem dX3_holds_18 : decode cX3_holds 18 = .ok (.if_icmp .ne 7, 3) := by decide +kernel
theorem dX3_holds_21 : decode cX3_holds 21 = .ok (.iconst 1, 1) := by decide +kernel
theorem dX3_holds_22 : decode cX3_holds 22 = .ok (.goto 4, 3) := by decide +kernel
theorem dX3_holds_25 : decode cX3_holds 25 = .ok (.iconst 0, 1) := by decide +kernel
theorem dX3_holds_26 : decode cX3_holds 26 = .ok (.ireturn, 1) := by decide +kernel
theorem dX3_holdsFrom_0 : decode cX3_holdsFrom 0 = .ok (.aload_n 0, 1) := by decide +kernel
theorem dX3_holdsFrom_1 : decode cX3_holdsFrom 1 = .ok (.iload_n 1, 1) := by decide +kernel
theorem dX3_holdsFrom_2 : decode cX3_holdsFrom 2 = .ok (.iload_n 2, 1) := by decide +kernel
theorem dX3_holdsFrom_3 : decode cX3_holdsFrom 3 = .ok (.invokevirtual 37, 3) := by decide +kernel
theorem dX3_holdsFrom_6 : decode cX3_holdsFrom 6 = .ok (.ifCond .eq 16, 3) := by decide +kernel
theorem dX3_holdsFrom_9 : decode cX3_holdsFrom 9 = .ok (.aload_n 0, 1) := by decide +kernel
theorem dX3_holdsFrom_10 : decode cX3_holdsFrom 10 = .ok (.getfield 18, 3) := by decide +kernel
theorem dX3_holdsFrom_13 : decode cX3_holdsFrom 13 = .ok (.iload_n 2, 1) := by decide +kernel
theorem dX3_holdsFrom_14 : decode cX3_holdsFrom 14 = .ok (.iaload, 1) := by decide +kernel
theorem dX3_holdsFrom_15 : decode cX3_holdsFrom 15 = .ok (.ifCond .le 7, 3) := by decide +kernel
theorem dX3_holdsFrom_18 : decode cX3_holdsFrom 18 = .ok (.iconst 1, 1) := by decide +kernel
theorem dX3_holdsFrom_19 : decode cX3_holdsFrom 19 = .ok (.goto 4, 3) := by decide +kernel
theorem dX3_holdsFrom_22 : decode cX3_holdsFrom 22 = .ok (.iconst 0, 1) := by decide +kernel
theorem dX3_holdsFrom_23 : decode cX3_holdsFrom 23 = .ok (.ireturn, 1) := by decide +kernel
theorem dX3_hand_0 : decode cX3_hand 0 = .ok (.iload_n 1, 1) := by decide +kernel
theorem dX3_hand_1 : decode cX3_hand 1 = .ok (.ifCond .lt 39, 3) := by decide +kernel
theorem dX3_hand_4 : decode cX3_hand 4 = .ok (.iload_n 1, 1) := by decide +kernel
theorem dX3_hand_5 : decode cX3_hand 5 = .ok (.sipush 1024, 3) := by decide +kernel
theorem dX3_hand_8 : decode cX3_hand 8 = .ok (.if_icmp .ge 32, 3) := by decide +kernel
theorem dX3_hand_11 : decode cX3_hand 11 = .ok (.iload_n 1, 1) := by decide +kernel
theorem dX3_hand_12 : decode cX3_hand 12 = .ok (.aload_n 0, 1) := by decide +kernel
theorem dX3_hand_13 : decode cX3_hand 13 = .ok (.getfield 18, 3) := by decide +kernel
theorem dX3_hand_16 : decode cX3_hand 16 = .ok (.iload_n 1, 1) := by decide +kernel
theorem dX3_hand_17 : decode cX3_hand 17 = .ok (.iaload, 1) := by decide +kernel
theorem dX3_hand_18 : decode cX3_hand 18 = .ok (.iconst 1, 1) := by decide +kernel
theorem dX3_hand_19 : decode cX3_hand 19 = .ok (.invokestatic 25, 3) := by decide +kernel
theorem dX3_hand_22 : decode cX3_hand 22 = .ok (.iadd, 1) := by decide +kernel
theorem dX3_hand_23 : decode cX3_hand 23 = .ok (.sipush 1024, 3) := by decide +kernel
theorem dX3_hand_26 : decode cX3_hand 26 = .ok (.invokestatic 41, 3) := by decide +kernel
theorem dX3_hand_29 : decode cX3_hand 29 = .ok (.istore_n 3, 1) := by decide +kernel
theorem dX3_hand_30 : decode cX3_hand 30 = .ok (.aload_n 0, 1) := by decide +kernel
theorem dX3_hand_31 : decode cX3_hand 31 = .ok (.getfield 15, 3) := by decide +kernel
theorem dX3_hand_34 : decode cX3_hand 34 = .ok (.iload_n 1, 1) := by decide +kernel
theorem dX3_hand_35 : decode cX3_hand 35 = .ok (.iload_n 3, 1) := by decide +kernel
theorem dX3_hand_36 : decode cX3_hand 36 = .ok (.iload_n 2, 1) := by decide +kernel
theorem dX3_hand_37 : decode cX3_hand 37 = .ok (.invokestatic 31, 3) := by decide +kernel
theorem dX3_hand_40 : decode cX3_hand 40 = .ok (.return_, 1) := by decide +kernel
theorem dX3_regain_0 : decode cX3_regain 0 = .ok (.iconst (-1), 1) := by decide +kernel
theorem dX3_regain_1 : decode cX3_regain 1 = .ok (.istore_n 3, 1) := by decide +kernel
theorem dX3_regain_2 : decode cX3_regain 2 = .ok (.iconst 0, 1) := by decide +kernel
theorem dX3_regain_3 : decode cX3_regain 3 = .ok (.istore 4, 2) := by decide +kernel
theorem dX3_regain_5 : decode cX3_regain 5 = .ok (.iconst 0, 1) := by decide +kernel
theorem dX3_regain_6 : decode cX3_regain 6 = .ok (.istore 5, 2) := by decide +kernel
theorem dX3_regain_8 : decode cX3_regain 8 = .ok (.iload 5, 2) := by decide +kernel
theorem dX3_regain_10 : decode cX3_regain 10 = .ok (.sipush 1024, 3) := by decide +kernel
theorem dX3_regain_13 : decode cX3_regain 13 = .ok (.if_icmp .ge 116, 3) := by decide +kernel
theorem dX3_regain_16 : decode cX3_regain 16 = .ok (.iload 5, 2) := by decide +kernel
theorem dX3_regain_18 : decode cX3_regain 18 = .ok (.aload_n 0, 1) := by decide +kernel
theorem dX3_regain_19 : decode cX3_regain 19 = .ok (.getfield 18, 3) := by decide +kernel
theorem dX3_regain_22 : decode cX3_regain 22 = .ok (.iload 5, 2) := by decide +kernel
theorem dX3_regain_24 : decode cX3_regain 24 = .ok (.iaload, 1) := by decide +kernel
theorem dX3_regain_25 : decode cX3_regain 25 = .ok (.iconst 1, 1) := by decide +kernel
theorem dX3_regain_26 : decode cX3_regain 26 = .ok (.invokestatic 25, 3) := by decide +kernel
theorem dX3_regain_29 : decode cX3_regain 29 = .ok (.iadd, 1) := by decide +kernel
theorem dX3_regain_30 : decode cX3_regain 30 = .ok (.istore 4, 2) := by decide +kernel
theorem dX3_regain_32 : decode cX3_regain 32 = .ok (.aload_n 0, 1) := by decide +kernel
theorem dX3_regain_33 : decode cX3_regain 33 = .ok (.getfield 15, 3) := by decide +kernel
theorem dX3_regain_36 : decode cX3_regain 36 = .ok (.iload 5, 2) := by decide +kernel
theorem dX3_regain_38 : decode cX3_regain 38 = .ok (.iaload, 1) := by decide +kernel
theorem dX3_regain_39 : decode cX3_regain 39 = .ok (.iload_n 1, 1) := by decide +kernel
theorem dX3_regain_40 : decode cX3_regain 40 = .ok (.if_icmp .ne 32, 3) := by decide +kernel
theorem dX3_regain_43 : decode cX3_regain 43 = .ok (.iload_n 2, 1) := by decide +kernel
theorem dX3_regain_44 : decode cX3_regain 44 = .ok (.iload 5, 2) := by decide +kernel
theorem dX3_regain_46 : decode cX3_regain 46 = .ok (.if_icmp .eq 8, 3) := by decide +kernel
theorem dX3_regain_49 : decode cX3_regain 49 = .ok (.iload_n 2, 1) := by decide +kernel
theorem dX3_regain_50 : decode cX3_regain 50 = .ok (.iconst (-1), 1) := by decide +kernel
theorem dX3_regain_51 : decode cX3_regain 51 = .ok (.if_icmp .ne 21, 3) := by decide +kernel
theorem dX3_regain_54 : decode cX3_regain 54 = .ok (.aload_n 0, 1) := by decide +kernel
theorem dX3_regain_55 : decode cX3_regain 55 = .ok (.getfield 15, 3) := by decide +kernel
theorem dX3_regain_58 : decode cX3_regain 58 = .ok (.iload 5, 2) := by decide +kernel
theorem dX3_regain_60 : decode cX3_regain 60 = .ok (.iload 4, 2) := by decide +kernel
theorem dX3_regain_62 : decode cX3_regain 62 = .ok (.sipush 1024, 3) := by decide +kernel
theorem dX3_regain_65 : decode cX3_regain 65 = .ok (.invokestatic 41, 3) := by decide +kernel
theorem dX3_regain_68 : decode cX3_regain 68 = .ok (.iconst 0, 1) := by decide +kernel
theorem dX3_regain_69 : decode cX3_regain 69 = .ok (.invokestatic 31, 3) := by decide +kernel
theorem dX3_regain_72 : decode cX3_regain 72 = .ok (.aload_n 0, 1) := by decide +kernel
theorem dX3_regain_73 : decode cX3_regain 73 = .ok (.getfield 15, 3) := by decide +kernel
theorem dX3_regain_76 : decode cX3_regain 76 = .ok (.iload 5, 2) := by decide +kernel
theorem dX3_regain_78 : decode cX3_regain 78 = .ok (.iaload, 1) := by decide +kernel
theorem dX3_regain_79 : decode cX3_regain 79 = .ok (.ifCond .eq 8, 3) := by decide +kernel
theorem dX3_regain_82 : decode cX3_regain 82 = .ok (.iconst (-1), 1) := by decide +kernel
theorem dX3_regain_83 : decode cX3_regain 83 = .ok (.istore_n 3, 1) := by decide +kernel
theorem dX3_regain_84 : decode cX3_regain 84 = .ok (.goto 38, 3) := by decide +kernel
theorem dX3_regain_87 : decode cX3_regain 87 = .ok (.iload_n 3, 1) := by decide +kernel
theorem dX3_regain_88 : decode cX3_regain 88 = .ok (.iconst (-1), 1) := by decide +kernel
theorem dX3_regain_89 : decode cX3_regain 89 = .ok (.if_icmp .ne 9, 3) := by decide +kernel
theorem dX3_regain_92 : decode cX3_regain 92 = .ok (.iload 5, 2) := by decide +kernel
theorem dX3_regain_94 : decode cX3_regain 94 = .ok (.istore_n 3, 1) := by decide +kernel
theorem dX3_regain_95 : decode cX3_regain 95 = .ok (.goto 27, 3) := by decide +kernel
theorem dX3_regain_98 : decode cX3_regain 98 = .ok (.aload_n 0, 1) := by decide +kernel
theorem dX3_regain_99 : decode cX3_regain 99 = .ok (.getfield 18, 3) := by decide +kernel
theorem dX3_regain_102 : decode cX3_regain 102 = .ok (.iload_n 3, 1) := by decide +kernel
theorem dX3_regain_103 : decode cX3_regain 103 = .ok (.dup2, 1) := by decide +kernel
theorem dX3_regain_104 : decode cX3_regain 104 = .ok (.iaload, 1) := by decide +kernel
theorem dX3_regain_105 : decode cX3_regain 105 = .ok (.aload_n 0, 1) := by decide +kernel
theorem dX3_regain_106 : decode cX3_regain 106 = .ok (.getfield 18, 3) := by decide +kernel
theorem dX3_regain_109 : decode cX3_regain 109 = .ok (.iload 5, 2) := by decide +kernel
theorem dX3_regain_111 : decode cX3_regain 111 = .ok (.iaload, 1) := by decide +kernel
theorem dX3_regain_112 : decode cX3_regain 112 = .ok (.iadd, 1) := by decide +kernel
theorem dX3_regain_113 : decode cX3_regain 113 = .ok (.iastore, 1) := by decide +kernel
theorem dX3_regain_114 : decode cX3_regain 114 = .ok (.aload_n 0, 1) := by decide +kernel
theorem dX3_regain_115 : decode cX3_regain 115 = .ok (.getfield 18, 3) := by decide +kernel
theorem dX3_regain_118 : decode cX3_regain 118 = .ok (.iload 5, 2) := by decide +kernel
theorem dX3_regain_120 : decode cX3_regain 120 = .ok (.iconst 0, 1) := by decide +kernel
theorem dX3_regain_121 : decode cX3_regain 121 = .ok (.iastore, 1) := by decide +kernel
theorem dX3_regain_122 : decode cX3_regain 122 = .ok (.iload 4, 2) := by decide +kernel
theorem dX3_regain_124 : decode cX3_regain 124 = .ok (.istore 5, 2) := by decide +kernel
theorem dX3_regain_126 : decode cX3_regain 126 = .ok (.goto (-118), 3) := by decide +kernel
theorem dX3_regain_129 : decode cX3_regain 129 = .ok (.return_, 1) := by decide +kernel
theorem dX3_cellsOf_0 : decode cX3_cellsOf 0 = .ok (.iconst 0, 1) := by decide +kernel
theorem dX3_cellsOf_1 : decode cX3_cellsOf 1 = .ok (.istore_n 2, 1) := by decide +kernel
theorem dX3_cellsOf_2 : decode cX3_cellsOf 2 = .ok (.iconst 0, 1) := by decide +kernel
theorem dX3_cellsOf_3 : decode cX3_cellsOf 3 = .ok (.istore_n 3, 1) := by decide +kernel
theorem dX3_cellsOf_4 : decode cX3_cellsOf 4 = .ok (.iload_n 3, 1) := by decide +kernel
theorem dX3_cellsOf_5 : decode cX3_cellsOf 5 = .ok (.sipush 1024, 3) := by decide +kernel
theorem dX3_cellsOf_8 : decode cX3_cellsOf 8 = .ok (.if_icmp .ge 38, 3) := by decide +kernel
theorem dX3_cellsOf_11 : decode cX3_cellsOf 11 = .ok (.aload_n 0, 1) := by decide +kernel
theorem dX3_cellsOf_12 : decode cX3_cellsOf 12 = .ok (.getfield 15, 3) := by decide +kernel
theorem dX3_cellsOf_15 : decode cX3_cellsOf 15 = .ok (.iload_n 3, 1) := by decide +kernel
theorem dX3_cellsOf_16 : decode cX3_cellsOf 16 = .ok (.iaload, 1) := by decide +kernel
theorem dX3_cellsOf_17 : decode cX3_cellsOf 17 = .ok (.iload_n 1, 1) := by decide +kernel
theorem dX3_cellsOf_18 : decode cX3_cellsOf 18 = .ok (.if_icmp .ne 12, 3) := by decide +kernel
theorem dX3_cellsOf_21 : decode cX3_cellsOf 21 = .ok (.iload_n 2, 1) := by decide +kernel
theorem dX3_cellsOf_22 : decode cX3_cellsOf 22 = .ok (.aload_n 0, 1) := by decide +kernel
theorem dX3_cellsOf_23 : decode cX3_cellsOf 23 = .ok (.getfield 18, 3) := by decide +kernel
theorem dX3_cellsOf_26 : decode cX3_cellsOf 26 = .ok (.iload_n 3, 1) := by decide +kernel
theorem dX3_cellsOf_27 : decode cX3_cellsOf 27 = .ok (.iaload, 1) := by decide +kernel
theorem dX3_cellsOf_28 : decode cX3_cellsOf 28 = .ok (.iadd, 1) := by decide +kernel
theorem dX3_cellsOf_29 : decode cX3_cellsOf 29 = .ok (.istore_n 2, 1) := by decide +kernel
theorem dX3_cellsOf_30 : decode cX3_cellsOf 30 = .ok (.iload_n 3, 1) := by decide +kernel
theorem dX3_cellsOf_31 : decode cX3_cellsOf 31 = .ok (.aload_n 0, 1) := by decide +kernel
theorem dX3_cellsOf_32 : decode cX3_cellsOf 32 = .ok (.getfield 18, 3) := by decide +kernel
theorem dX3_cellsOf_35 : decode cX3_cellsOf 35 = .ok (.iload_n 3, 1) := by decide +kernel
theorem dX3_cellsOf_36 : decode cX3_cellsOf 36 = .ok (.iaload, 1) := by decide +kernel
theorem dX3_cellsOf_37 : decode cX3_cellsOf 37 = .ok (.iconst 1, 1) := by decide +kernel
theorem dX3_cellsOf_38 : decode cX3_cellsOf 38 = .ok (.invokestatic 25, 3) := by decide +kernel
theorem dX3_cellsOf_41 : decode cX3_cellsOf 41 = .ok (.iadd, 1) := by decide +kernel
theorem dX3_cellsOf_42 : decode cX3_cellsOf 42 = .ok (.istore_n 3, 1) := by decide +kernel
theorem dX3_cellsOf_43 : decode cX3_cellsOf 43 = .ok (.goto (-39), 3) := by decide +kernel
theorem dX3_cellsOf_46 : decode cX3_cellsOf 46 = .ok (.iload_n 2, 1) := by decide +kernel
theorem dX3_cellsOf_47 : decode cX3_cellsOf 47 = .ok (.ireturn, 1) := by decide +kernel
theorem dX3_blocks_0 : decode cX3_blocks 0 = .ok (.iconst 0, 1) := by decide +kernel
theorem dX3_blocks_1 : decode cX3_blocks 1 = .ok (.istore_n 1, 1) := by decide +kernel
theorem dX3_blocks_2 : decode cX3_blocks 2 = .ok (.iconst 0, 1) := by decide +kernel
theorem dX3_blocks_3 : decode cX3_blocks 3 = .ok (.istore_n 2, 1) := by decide +kernel
theorem dX3_blocks_4 : decode cX3_blocks 4 = .ok (.iload_n 2, 1) := by decide +kernel
theorem dX3_blocks_5 : decode cX3_blocks 5 = .ok (.sipush 1024, 3) := by decide +kernel
theorem dX3_blocks_8 : decode cX3_blocks 8 = .ok (.if_icmp .ge 22, 3) := by decide +kernel
theorem dX3_blocks_11 : decode cX3_blocks 11 = .ok (.iinc 1 1, 3) := by decide +kernel
theorem dX3_blocks_14 : decode cX3_blocks 14 = .ok (.iload_n 2, 1) := by decide +kernel
theorem dX3_blocks_15 : decode cX3_blocks 15 = .ok (.aload_n 0, 1) := by decide +kernel
theorem dX3_blocks_16 : decode cX3_blocks 16 = .ok (.getfield 18, 3) := by decide +kernel
theorem dX3_blocks_19 : decode cX3_blocks 19 = .ok (.iload_n 2, 1) := by decide +kernel
theorem dX3_blocks_20 : decode cX3_blocks 20 = .ok (.iaload, 1) := by decide +kernel
theorem dX3_blocks_21 : decode cX3_blocks 21 = .ok (.iconst 1, 1) := by decide +kernel
theorem dX3_blocks_22 : decode cX3_blocks 22 = .ok (.invokestatic 25, 3) := by decide +kernel
theorem dX3_blocks_25 : decode cX3_blocks 25 = .ok (.iadd, 1) := by decide +kernel
theorem dX3_blocks_26 : decode cX3_blocks 26 = .ok (.istore_n 2, 1) := by decide +kernel
theorem dX3_blocks_27 : decode cX3_blocks 27 = .ok (.goto (-23), 3) := by decide +kernel
theorem dX3_blocks_30 : decode cX3_blocks 30 = .ok (.iload_n 1, 1) := by decide +kernel
theorem dX3_blocks_31 : decode cX3_blocks 31 = .ok (.ireturn, 1) := by decide +kernel
theorem dX3_addressOf_0 : decode cX3_addressOf 0 = .ok (.iload_n 1, 1) := by decide +kernel
theorem dX3_addressOf_1 : decode cX3_addressOf 1 = .ok (.istore_n 2, 1) := by decide +kernel
theorem dX3_addressOf_2 : decode cX3_addressOf 2 = .ok (.iconst 0, 1) := by decide +kernel
theorem dX3_addressOf_3 : decode cX3_addressOf 3 = .ok (.istore_n 3, 1) := by decide +kernel
theorem dX3_addressOf_4 : decode cX3_addressOf 4 = .ok (.iload_n 3, 1) := by decide +kernel
theorem dX3_addressOf_5 : decode cX3_addressOf 5 = .ok (.sipush 1024, 3) := by decide +kernel
theorem dX3_addressOf_8 : decode cX3_addressOf 8 = .ok (.if_icmp .ge 28, 3) := by decide +kernel
theorem dX3_addressOf_11 : decode cX3_addressOf 11 = .ok (.iload_n 2, 1) := by decide +kernel
theorem dX3_addressOf_12 : decode cX3_addressOf 12 = .ok (.ifCond .ne 5, 3) := by decide +kernel
theorem dX3_addressOf_15 : decode cX3_addressOf 15 = .ok (.iload_n 3, 1) := by decide +kernel
theorem dX3_addressOf_16 : decode cX3_addressOf 16 = .ok (.ireturn, 1) := by decide +kernel
theorem dX3_addressOf_17 : decode cX3_addressOf 17 = .ok (.iinc 2 (-1), 3) := by decide +kernel
theorem dX3_addressOf_20 : decode cX3_addressOf 20 = .ok (.iload_n 3, 1) := by decide +kernel
theorem dX3_addressOf_21 : decode cX3_addressOf 21 = .ok (.aload_n 0, 1) := by decide +kernel
theorem dX3_addressOf_22 : decode cX3_addressOf 22 = .ok (.getfield 18, 3) := by decide +kernel
theorem dX3_addressOf_25 : decode cX3_addressOf 25 = .ok (.iload_n 3, 1) := by decide +kernel
theorem dX3_addressOf_26 : decode cX3_addressOf 26 = .ok (.iaload, 1) := by decide +kernel
theorem dX3_addressOf_27 : decode cX3_addressOf 27 = .ok (.iconst 1, 1) := by decide +kernel
theorem dX3_addressOf_28 : decode cX3_addressOf 28 = .ok (.invokestatic 25, 3) := by decide +kernel
theorem dX3_addressOf_31 : decode cX3_addressOf 31 = .ok (.iadd, 1) := by decide +kernel
theorem dX3_addressOf_32 : decode cX3_addressOf 32 = .ok (.istore_n 3, 1) := by decide +kernel
theorem dX3_addressOf_33 : decode cX3_addressOf 33 = .ok (.goto (-29), 3) := by decide +kernel
theorem dX3_addressOf_36 : decode cX3_addressOf 36 = .ok (.iconst (-1), 1) := by decide +kernel
theorem dX3_addressOf_37 : decode cX3_addressOf 37 = .ok (.ireturn, 1) := by decide +kernel
theorem dX4_written_0 : decode cX4_written 0 = .ok (.iconst 0, 1) := by decide +kernel
theorem dX4_written_1 : decode cX4_written 1 = .ok (.istore_n 3, 1) := by decide +kernel
theorem dX4_written_2 : decode cX4_written 2 = .ok (.iload_n 3, 1) := by decide +kernel
theorem dX4_written_3 : decode cX4_written 3 = .ok (.getstatic 168, 3) := by decide +kernel
theorem dX4_written_6 : decode cX4_written 6 = .ok (.arraylength, 1) := by decide +kernel
theorem dX4_written_7 : decode cX4_written 7 = .ok (.if_icmp .ge 32, 3) := by decide +kernel
theorem dX4_written_10 : decode cX4_written 10 = .ok (.aload_n 0, 1) := by decide +kernel
theorem dX4_written_11 : decode cX4_written 11 = .ok (.getstatic 168, 3) := by decide +kernel
theorem dX4_written_14 : decode cX4_written 14 = .ok (.iload_n 3, 1) := by decide +kernel
theorem dX4_written_15 : decode cX4_written 15 = .ok (.aaload, 1) := by decide +kernel
theorem dX4_written_16 : decode cX4_written 16 = .ok (.getfield 154, 3) := by decide +kernel
theorem dX4_written_19 : decode cX4_written 19 = .ok (.iload_n 1, 1) := by decide +kernel
theorem dX4_written_20 : decode cX4_written 20 = .ok (.iload_n 2, 1) := by decide +kernel
theorem dX4_written_21 : decode cX4_written 21 = .ok (.invokevirtual 171, 3) := by decide +kernel
theorem dX4_written_24 : decode cX4_written 24 = .ok (.ifCond .eq 9, 3) := by decide +kernel
theorem dX4_written_27 : decode cX4_written 27 = .ok (.getstatic 168, 3) := by decide +kernel
theorem dX4_written_30 : decode cX4_written 30 = .ok (.iload_n 3, 1) := by decide +kernel
theorem dX4_written_31 : decode cX4_written 31 = .ok (.aaload, 1) := by decide +kernel
theorem dX4_written_32 : decode cX4_written 32 = .ok (.areturn, 1) := by decide +kernel
theorem dX4_written_33 : decode cX4_written 33 = .ok (.iinc 3 1, 3) := by decide +kernel
theorem dX4_written_36 : decode cX4_written 36 = .ok (.goto (-34), 3) := by decide +kernel
theorem dX4_written_39 : decode cX4_written 39 = .ok (.aconst_null, 1) := by decide +kernel
theorem dX4_written_40 : decode cX4_written 40 = .ok (.areturn, 1) := by decide +kernel
theorem dX4_hasName_0 : decode cX4_hasName 0 = .ok (.aload_n 0, 1) := by decide +kernel
theorem dX4_hasName_1 : decode cX4_hasName 1 = .ok (.getstatic 66, 3) := by decide +kernel
theorem dX4_hasName_4 : decode cX4_hasName 4 = .ok (.if_acmp .eq 24, 3) := by decide +kernel
theorem dX4_hasName_7 : decode cX4_hasName 7 = .ok (.aload_n 0, 1) := by decide +kernel
theorem dX4_hasName_8 : decode cX4_hasName 8 = .ok (.getstatic 69, 3) := by decide +kernel
theorem dX4_hasName_11 : decode cX4_hasName 11 = .ok (.if_acmp .eq 17, 3) := by decide +kernel
theorem dX4_hasName_14 : decode cX4_hasName 14 = .ok (.aload_n 0, 1) := by decide +kernel
theorem dX4_hasName_15 : decode cX4_hasName 15 = .ok (.getstatic 72, 3) := by decide +kernel
theorem dX4_hasName_18 : decode cX4_hasName 18 = .ok (.if_acmp .eq 10, 3) := by decide +kernel
theorem dX4_hasName_21 : decode cX4_hasName 21 = .ok (.aload_n 0, 1) := by decide +kernel
theorem dX4_hasName_22 : decode cX4_hasName 22 = .ok (.getstatic 108, 3) := by decide +kernel
theorem dX4_hasName_25 : decode cX4_hasName 25 = .ok (.if_acmp .ne 7, 3) := by decide +kernel
theorem dX4_hasName_28 : decode cX4_hasName 28 = .ok (.iconst 1, 1) := by decide +kernel
theorem dX4_hasName_29 : decode cX4_hasName 29 = .ok (.goto 4, 3) := by decide +kernel
theorem dX4_hasName_32 : decode cX4_hasName 32 = .ok (.iconst 0, 1) := by decide +kernel
theorem dX4_hasName_33 : decode cX4_hasName 33 = .ok (.ireturn, 1) := by decide +kernel
theorem dX5_init_0 : decode cX5_init 0 = .ok (.aload_n 0, 1) := by decide +kernel
theorem dX5_init_1 : decode cX5_init 1 = .ok (.invokespecial 3, 3) := by decide +kernel
theorem dX5_init_4 : decode cX5_init 4 = .ok (.aload_n 0, 1) := by decide +kernel
theorem dX5_init_5 : decode cX5_init 5 = .ok (.sipush 256, 3) := by decide +kernel
theorem dX5_init_8 : decode cX5_init 8 = .ok (.anewarray 9, 3) := by decide +kernel
theorem dX5_init_11 : decode cX5_init 11 = .ok (.putfield 11, 3) := by decide +kernel
theorem dX5_init_14 : decode cX5_init 14 = .ok (.aload_n 0, 1) := by decide +kernel
theorem dX5_init_15 : decode cX5_init 15 = .ok (.sipush 256, 3) := by decide +kernel
theorem dX5_init_18 : decode cX5_init 18 = .ok (.newarray .int, 2) := by decide +kernel
theorem dX5_init_20 : decode cX5_init 20 = .ok (.putfield 17, 3) := by decide +kernel
theorem dX5_init_23 : decode cX5_init 23 = .ok (.return_, 1) := by decide +kernel
theorem dX6_init_0 : decode cX6_init 0 = .ok (.aload_n 0, 1) := by decide +kernel
theorem dX6_init_1 : decode cX6_init 1 = .ok (.invokespecial 3, 3) := by decide +kernel
theorem dX6_init_4 : decode cX6_init 4 = .ok (.aload_n 0, 1) := by decide +kernel
theorem dX6_init_5 : decode cX6_init 5 = .ok (.bipush 32, 2) := by decide +kernel
theorem dX6_init_7 : decode cX6_init 7 = .ok (.newarray .int, 2) := by decide +kernel
theorem dX6_init_9 : decode cX6_init 9 = .ok (.putfield 9, 3) := by decide +kernel
theorem dX6_init_12 : decode cX6_init 12 = .ok (.aload_n 0, 1) := by decide +kernel
theorem dX6_init_13 : decode cX6_init 13 = .ok (.bipush 32, 2) := by decide +kernel
theorem dX6_init_15 : decode cX6_init 15 = .ok (.newarray .int, 2) := by decide +kernel
theorem dX6_init_17 : decode cX6_init 17 = .ok (.putfield 15, 3) := by decide +kernel
theorem dX6_init_20 : decode cX6_init 20 = .ok (.aload_n 0, 1) := by decide +kernel
theorem dX6_init_21 : decode cX6_init 21 = .ok (.bipush 32, 2) := by decide +kernel
theorem dX6_init_23 : decode cX6_init 23 = .ok (.newarray .int, 2) := by decide +kernel
theorem dX6_init_25 : decode cX6_init 25 = .ok (.putfield 18, 3) := by decide +kernel
theorem dX6_init_28 : decode cX6_init 28 = .ok (.aload_n 0, 1) := by decide +kernel
theorem dX6_init_29 : decode cX6_init 29 = .ok (.sipush 256, 3) := by decide +kernel
theorem dX6_init_32 : decode cX6_init 32 = .ok (.newarray .int, 2) := by decide +kernel
theorem dX6_init_34 : decode cX6_init 34 = .ok (.putfield 21, 3) := by decide +kernel
theorem dX6_init_37 : decode cX6_init 37 = .ok (.aload_n 0, 1) := by decide +kernel
theorem dX6_init_38 : decode cX6_init 38 = .ok (.sipush 256, 3) := by decide +kernel
theorem dX6_init_41 : decode cX6_init 41 = .ok (.newarray .int, 2) := by decide +kernel
theorem dX6_init_43 : decode cX6_init 43 = .ok (.putfield 24, 3) := by decide +kernel
theorem dX6_init_46 : decode cX6_init 46 = .ok (.aload_n 0, 1) := by decide +kernel
theorem dX6_init_47 : decode cX6_init 47 = .ok (.aload_n 1, 1) := by decide +kernel
theorem dX6_init_48 : decode cX6_init 48 = .ok (.putfield 27, 3) := by decide +kernel
theorem dX6_init_51 : decode cX6_init 51 = .ok (.return_, 1) := by decide +kernel
theorem dX6_read_0 : decode cX6_read 0 = .ok (.aload_n 1, 1) := by decide +kernel
theorem dX6_read_1 : decode cX6_read 1 = .ok (.iconst 0, 1) := by decide +kernel
theorem dX6_read_2 : decode cX6_read 2 = .ok (.putfield 31, 3) := by decide +kernel
theorem dX6_read_5 : decode cX6_read 5 = .ok (.aload_n 0, 1) := by decide +kernel
theorem dX6_read_6 : decode cX6_read 6 = .ok (.iconst 0, 1) := by decide +kernel
theorem dX6_read_7 : decode cX6_read 7 = .ok (.putfield 37, 3) := by decide +kernel
theorem dX6_read_10 : decode cX6_read 10 = .ok (.aload_n 0, 1) := by decide +kernel
theorem dX6_read_11 : decode cX6_read 11 = .ok (.iconst 0, 1) := by decide +kernel
theorem dX6_read_12 : decode cX6_read 12 = .ok (.putfield 40, 3) := by decide +kernel
theorem dX6_read_15 : decode cX6_read 15 = .ok (.aload_n 0, 1) := by decide +kernel
theorem dX6_read_16 : decode cX6_read 16 = .ok (.iconst 0, 1) := by decide +kernel
theorem dX6_read_17 : decode cX6_read 17 = .ok (.putfield 43, 3) := by decide +kernel
theorem dX6_read_20 : decode cX6_read 20 = .ok (.aload_n 0, 1) := by decide +kernel
theorem dX6_read_21 : decode cX6_read 21 = .ok (.iconst 0, 1) := by decide +kernel
theorem dX6_read_22 : decode cX6_read 22 = .ok (.putfield 46, 3) := by decide +kernel
theorem dX6_read_25 : decode cX6_read 25 = .ok (.iconst 0, 1) := by decide +kernel
theorem dX6_read_26 : decode cX6_read 26 = .ok (.istore_n 2, 1) := by decide +kernel
theorem dX6_read_27 : decode cX6_read 27 = .ok (.iload_n 2, 1) := by decide +kernel
theorem dX6_read_28 : decode cX6_read 28 = .ok (.sipush 8192, 3) := by decide +kernel
theorem dX6_read_31 : decode cX6_read 31 = .ok (.if_icmp .ge 28, 3) := by decide +kernel
theorem dX6_read_34 : decode cX6_read 34 = .ok (.aload_n 0, 1) := by decide +kernel
theorem dX6_read_35 : decode cX6_read 35 = .ok (.getfield 43, 3) := by decide +kernel
theorem dX6_read_38 : decode cX6_read 38 = .ok (.ifCond .ne 21, 3) := by decide +kernel
theorem dX6_read_41 : decode cX6_read 41 = .ok (.aload_n 0, 1) := by decide +kernel
theorem dX6_read_42 : decode cX6_read 42 = .ok (.invokevirtual 49, 3) := by decide +kernel
theorem dX6_read_45 : decode cX6_read 45 = .ok (.ifCond .eq 14, 3) := by decide +kernel
theorem dX6_read_48 : decode cX6_read 48 = .ok (.aload_n 0, 1) := by decide +kernel
theorem dX6_read_49 : decode cX6_read 49 = .ok (.aload_n 1, 1) := by decide +kernel
theorem dX6_read_50 : decode cX6_read 50 = .ok (.invokevirtual 53, 3) := by decide +kernel
theorem dX6_read_53 : decode cX6_read 53 = .ok (.iinc 2 1, 3) := by decide +kernel
theorem dX6_read_56 : decode cX6_read 56 = .ok (.goto (-29), 3) := by decide +kernel
theorem dX6_read_59 : decode cX6_read 59 = .ok (.aload_n 0, 1) := by decide +kernel
theorem dX6_read_60 : decode cX6_read 60 = .ok (.getfield 43, 3) := by decide +kernel
theorem dX6_read_63 : decode cX6_read 63 = .ok (.ifCond .ne 8, 3) := by decide +kernel
theorem dX6_read_66 : decode cX6_read 66 = .ok (.aload_n 0, 1) := by decide +kernel
theorem dX6_read_67 : decode cX6_read 67 = .ok (.aload_n 1, 1) := by decide +kernel
theorem dX6_read_68 : decode cX6_read 68 = .ok (.invokevirtual 57, 3) := by decide +kernel
theorem dX6_read_71 : decode cX6_read 71 = .ok (.aload_n 0, 1) := by decide +kernel
theorem dX6_read_72 : decode cX6_read 72 = .ok (.getfield 43, 3) := by decide +kernel
theorem dX6_read_75 : decode cX6_read 75 = .ok (.ifCond .ne 23, 3) := by decide +kernel
theorem dX6_read_78 : decode cX6_read 78 = .ok (.aload_n 1, 1) := by decide +kernel
theorem dX6_read_79 : decode cX6_read 79 = .ok (.getfield 31, 3) := by decide +kernel
theorem dX6_read_82 : decode cX6_read 82 = .ok (.ifCond .ne 16, 3) := by decide +kernel
theorem dX6_read_85 : decode cX6_read 85 = .ok (.aload_n 0, 1) := by decide +kernel
theorem dX6_read_86 : decode cX6_read 86 = .ok (.bipush 7, 2) := by decide +kernel
theorem dX6_read_88 : decode cX6_read 88 = .ok (.aload_n 0, 1) := by decide +kernel
theorem dX6_read_89 : decode cX6_read 89 = .ok (.getfield 27, 3) := by decide +kernel
theorem dX6_read_92 : decode cX6_read 92 = .ok (.getfield 60, 3) := by decide +kernel
theorem dX6_read_95 : decode cX6_read 95 = .ok (.invokevirtual 65, 3) := by decide +kernel
theorem dX6_read_98 : decode cX6_read 98 = .ok (.return_, 1) := by decide +kernel
theorem dX6_blame_0 : decode cX6_blame 0 = .ok (.aload_n 0, 1) := by decide +kernel
theorem dX6_blame_1 : decode cX6_blame 1 = .ok (.iload_n 1, 1) := by decide +kernel
theorem dX6_blame_2 : decode cX6_blame 2 = .ok (.putfield 43, 3) := by decide +kernel
theorem dX6_blame_5 : decode cX6_blame 5 = .ok (.aload_n 0, 1) := by decide +kernel
theorem dX6_blame_6 : decode cX6_blame 6 = .ok (.iload_n 2, 1) := by decide +kernel
theorem dX6_blame_7 : decode cX6_blame 7 = .ok (.putfield 46, 3) := by decide +kernel
theorem dX6_blame_10 : decode cX6_blame 10 = .ok (.return_, 1) := by decide +kernel
theorem dX6_findWord_0 : decode cX6_findWord 0 = .ok (.aload_n 0, 1) := by decide +kernel
theorem dX6_findWord_1 : decode cX6_findWord 1 = .ok (.aload_n 0, 1) := by decide +kernel
theorem dX6_findWord_2 : decode cX6_findWord 2 = .ok (.aload_n 0, 1) := by decide +kernel
theorem dX6_findWord_3 : decode cX6_findWord 3 = .ok (.getfield 40, 3) := by decide +kernel
theorem dX6_findWord_6 : decode cX6_findWord 6 = .ok (.invokevirtual 69, 3) := by decide +kernel
theorem dX6_findWord_9 : decode cX6_findWord 9 = .ok (.putfield 73, 3) := by decide +kernel
theorem dX6_findWord_12 : decode cX6_findWord 12 = .ok (.aload_n 0, 1) := by decide +kernel
theorem dX6_findWord_13 : decode cX6_findWord 13 = .ok (.aload_n 0, 1) := by decide +kernel
theorem dX6_findWord_14 : decode cX6_findWord 14 = .ok (.getfield 73, 3) := by decide +kernel
theorem dX6_findWord_17 : decode cX6_findWord 17 = .ok (.putfield 40, 3) := by decide +kernel
theorem dX6_findWord_20 : decode cX6_findWord 20 = .ok (.aload_n 0, 1) := by decide +kernel
theorem dX6_findWord_21 : decode cX6_findWord 21 = .ok (.getfield 40, 3) := by decide +kernel
theorem dX6_findWord_24 : decode cX6_findWord 24 = .ok (.aload_n 0, 1) := by decide +kernel
theorem dX6_findWord_25 : decode cX6_findWord 25 = .ok (.getfield 27, 3) := by decide +kernel
theorem dX6_findWord_28 : decode cX6_findWord 28 = .ok (.getfield 60, 3) := by decide +kernel
theorem dX6_findWord_31 : decode cX6_findWord 31 = .ok (.if_icmp .ge 33, 3) := by decide +kernel
theorem dX6_findWord_34 : decode cX6_findWord 34 = .ok (.aload_n 0, 1) := by decide +kernel
theorem dX6_findWord_35 : decode cX6_findWord 35 = .ok (.getfield 27, 3) := by decide +kernel
theorem dX6_findWord_38 : decode cX6_findWord 38 = .ok (.aload_n 0, 1) := by decide +kernel
theorem dX6_findWord_39 : decode cX6_findWord 39 = .ok (.getfield 40, 3) := by decide +kernel
theorem dX6_findWord_42 : decode cX6_findWord 42 = .ok (.invokevirtual 76, 3) := by decide +kernel
theorem dX6_findWord_45 : decode cX6_findWord 45 = .ok (.invokestatic 79, 3) := by decide +kernel
theorem dX6_findWord_48 : decode cX6_findWord 48 = .ok (.ifCond .ne 16, 3) := by decide +kernel
theorem dX6_findWord_51 : decode cX6_findWord 51 = .ok (.aload_n 0, 1) := by decide +kernel
theorem dX6_findWord_52 : decode cX6_findWord 52 = .ok (.dup, 1) := by decide +kernel
theorem dX6_findWord_53 : decode cX6_findWord 53 = .ok (.getfield 40, 3) := by decide +kernel
theorem dX6_findWord_56 : decode cX6_findWord 56 = .ok (.iconst 1, 1) := by decide +kernel
theorem dX6_findWord_57 : decode cX6_findWord 57 = .ok (.iadd, 1) := by decide +kernel
theorem dX6_findWord_58 : decode cX6_findWord 58 = .ok (.putfield 40, 3) := by decide +kernel
theorem dX6_findWord_61 : decode cX6_findWord 61 = .ok (.goto (-41), 3) := by decide +kernel
theorem dX6_findWord_64 : decode cX6_findWord 64 = .ok (.aload_n 0, 1) := by decide +kernel
theorem dX6_findWord_65 : decode cX6_findWord 65 = .ok (.getfield 40, 3) := by decide +kernel
theorem dX6_findWord_68 : decode cX6_findWord 68 = .ok (.aload_n 0, 1) := by decide +kernel
theorem dX6_findWord_69 : decode cX6_findWord 69 = .ok (.getfield 73, 3) := by decide +kernel
theorem dX6_findWord_72 : decode cX6_findWord 72 = .ok (.if_icmp .le 7, 3) := by decide +kernel
theorem dX6_findWord_75 : decode cX6_findWord 75 = .ok (.iconst 1, 1) := by decide +kernel
theorem dX6_findWord_76 : decode cX6_findWord 76 = .ok (.goto 4, 3) := by decide +kernel
theorem dX6_findWord_79 : decode cX6_findWord 79 = .ok (.iconst 0, 1) := by decide +kernel
theorem dX6_findWord_80 : decode cX6_findWord 80 = .ok (.ireturn, 1) := by decide +kernel
theorem dX6_placeBehindBlanks_0 : decode cX6_placeBehindBlanks 0 = .ok (.iconst 0, 1) := by decide +kernel
theorem dX6_placeBehindBlanks_1 : decode cX6_placeBehindBlanks 1 = .ok (.istore_n 2, 1) := by decide +kernel
theorem dX6_placeBehindBlanks_2 : decode cX6_placeBehindBlanks 2 = .ok (.iload_n 1, 1) := by decide +kernel
theorem dX6_placeBehindBlanks_3 : decode cX6_placeBehindBlanks 3 = .ok (.istore_n 3, 1) := by decide +kernel
theorem dX6_placeBehindBlanks_4 : decode cX6_placeBehindBlanks 4 = .ok (.iload_n 3, 1) := by decide +kernel
theorem dX6_placeBehindBlanks_5 : decode cX6_placeBehindBlanks 5 = .ok (.aload_n 0, 1) := by decide +kernel
theorem dX6_placeBehindBlanks_6 : decode cX6_placeBehindBlanks 6 = .ok (.getfield 27, 3) := by decide +kernel
theorem dX6_placeBehindBlanks_9 : decode cX6_placeBehindBlanks 9 = .ok (.getfield 60, 3) := by decide +kernel
theorem dX6_placeBehindBlanks_12 : decode cX6_placeBehindBlanks 12 = .ok (.if_icmp .ge 57, 3) := by decide +kernel
theorem dX6_placeBehindBlanks_15 : decode cX6_placeBehindBlanks 15 = .ok (.aload_n 0, 1) := by decide +kernel
theorem dX6_placeBehindBlanks_16 : decode cX6_placeBehindBlanks 16 = .ok (.getfield 27, 3) := by decide +kernel
theorem dX6_placeBehindBlanks_19 : decode cX6_placeBehindBlanks 19 = .ok (.iload_n 3, 1) := by decide +kernel
theorem dX6_placeBehindBlanks_20 : decode cX6_placeBehindBlanks 20 = .ok (.invokevirtual 76, 3) := by decide +kernel
theorem dX6_placeBehindBlanks_23 : decode cX6_placeBehindBlanks 23 = .ok (.istore 4, 2) := by decide +kernel
theorem dX6_placeBehindBlanks_25 : decode cX6_placeBehindBlanks 25 = .ok (.iload 4, 2) := by decide +kernel
theorem dX6_placeBehindBlanks_27 : decode cX6_placeBehindBlanks 27 = .ok (.bipush 10, 2) := by decide +kernel
theorem dX6_placeBehindBlanks_29 : decode cX6_placeBehindBlanks 29 = .ok (.if_icmp .ne 8, 3) := by decide +kernel
theorem dX6_placeBehindBlanks_32 : decode cX6_placeBehindBlanks 32 = .ok (.iconst 0, 1) := by decide +kernel
theorem dX6_placeBehindBlanks_33 : decode cX6_placeBehindBlanks 33 = .ok (.istore_n 2, 1) := by decide +kernel
theorem dX6_placeBehindBlanks_34 : decode cX6_placeBehindBlanks 34 = .ok (.goto 29, 3) := by decide +kernel
theorem dX6_placeBehindBlanks_37 : decode cX6_placeBehindBlanks 37 = .ok (.iload 4, 2) := by decide +kernel
theorem dX6_placeBehindBlanks_39 : decode cX6_placeBehindBlanks 39 = .ok (.bipush 35, 2) := by decide +kernel
theorem dX6_placeBehindBlanks_41 : decode cX6_placeBehindBlanks 41 = .ok (.if_icmp .ne 8, 3) := by decide +kernel
theorem dX6_placeBehindBlanks_44 : decode cX6_placeBehindBlanks 44 = .ok (.iconst 1, 1) := by decide +kernel
theorem dX6_placeBehindBlanks_45 : decode cX6_placeBehindBlanks 45 = .ok (.istore_n 2, 1) := by decide +kernel
theorem dX6_placeBehindBlanks_46 : decode cX6_placeBehindBlanks 46 = .ok (.goto 17, 3) := by decide +kernel
theorem dX6_placeBehindBlanks_49 : decode cX6_placeBehindBlanks 49 = .ok (.iload_n 2, 1) := by decide +kernel
theorem dX6_placeBehindBlanks_50 : decode cX6_placeBehindBlanks 50 = .ok (.ifCond .ne 13, 3) := by decide +kernel
theorem dX6_placeBehindBlanks_53 : decode cX6_placeBehindBlanks 53 = .ok (.iload 4, 2) := by decide +kernel
theorem dX6_placeBehindBlanks_55 : decode cX6_placeBehindBlanks 55 = .ok (.invokestatic 79, 3) := by decide +kernel
theorem dX6_placeBehindBlanks_58 : decode cX6_placeBehindBlanks 58 = .ok (.ifCond .ne 5, 3) := by decide +kernel
theorem dX6_placeBehindBlanks_61 : decode cX6_placeBehindBlanks 61 = .ok (.iload_n 3, 1) := by decide +kernel
theorem dX6_placeBehindBlanks_62 : decode cX6_placeBehindBlanks 62 = .ok (.ireturn, 1) := by decide +kernel
theorem dX6_placeBehindBlanks_63 : decode cX6_placeBehindBlanks 63 = .ok (.iinc 3 1, 3) := by decide +kernel
theorem dX6_placeBehindBlanks_66 : decode cX6_placeBehindBlanks 66 = .ok (.goto (-62), 3) := by decide +kernel
theorem dX6_placeBehindBlanks_69 : decode cX6_placeBehindBlanks 69 = .ok (.aload_n 0, 1) := by decide +kernel
theorem dX6_placeBehindBlanks_70 : decode cX6_placeBehindBlanks 70 = .ok (.getfield 27, 3) := by decide +kernel
theorem dX6_placeBehindBlanks_73 : decode cX6_placeBehindBlanks 73 = .ok (.getfield 60, 3) := by decide +kernel
theorem dX6_placeBehindBlanks_76 : decode cX6_placeBehindBlanks 76 = .ok (.ireturn, 1) := by decide +kernel
theorem dX6_readWord_0 : decode cX6_readWord 0 = .ok (.aload_n 0, 1) := by decide +kernel
theorem dX6_readWord_1 : decode cX6_readWord 1 = .ok (.invokevirtual 83, 3) := by decide +kernel
theorem dX6_readWord_4 : decode cX6_readWord 4 = .ok (.lstore_n 2, 1) := by decide +kernel
theorem dX6_readWord_5 : decode cX6_readWord 5 = .ok (.lload_n 2, 1) := by decide +kernel
theorem dX6_readWord_6 : decode cX6_readWord 6 = .ok (.ldc2_w 87, 3) := by decide +kernel
theorem dX6_readWord_9 : decode cX6_readWord 9 = .ok (.lcmp, 1) := by decide +kernel
theorem dX6_readWord_10 : decode cX6_readWord 10 = .ok (.ifCond .eq 14, 3) := by decide +kernel
theorem dX6_readWord_13 : decode cX6_readWord 13 = .ok (.aload_n 0, 1) := by decide +kernel
theorem dX6_readWord_14 : decode cX6_readWord 14 = .ok (.aload_n 1, 1) := by decide +kernel
theorem dX6_readWord_15 : decode cX6_readWord 15 = .ok (.getstatic 89, 3) := by decide +kernel
theorem dX6_readWord_18 : decode cX6_readWord 18 = .ok (.lload_n 2, 1) := by decide +kernel
theorem dX6_readWord_19 : decode cX6_readWord 19 = .ok (.l2i, 1) := by decide +kernel
theorem dX6_readWord_20 : decode cX6_readWord 20 = .ok (.invokevirtual 95, 3) := by decide +kernel
theorem dX6_readWord_23 : decode cX6_readWord 23 = .ok (.return_, 1) := by decide +kernel
theorem dX6_readWord_24 : decode cX6_readWord 24 = .ok (.aload_n 0, 1) := by decide +kernel
theorem dX6_readWord_25 : decode cX6_readWord 25 = .ok (.getfield 27, 3) := by decide +kernel
theorem dX6_readWord_28 : decode cX6_readWord 28 = .ok (.aload_n 0, 1) := by decide +kernel
theorem dX6_readWord_29 : decode cX6_readWord 29 = .ok (.getfield 73, 3) := by decide +kernel
theorem dX6_readWord_32 : decode cX6_readWord 32 = .ok (.aload_n 0, 1) := by decide +kernel
theorem dX6_readWord_33 : decode cX6_readWord 33 = .ok (.getfield 40, 3) := by decide +kernel
theorem dX6_readWord_36 : decode cX6_readWord 36 = .ok (.invokestatic 99, 3) := by decide +kernel
theorem dX6_readWord_39 : decode cX6_readWord 39 = .ok (.astore 4, 2) := by decide +kernel
theorem dX6_readWord_41 : decode cX6_readWord 41 = .ok (.aload 4, 2) := by decide +kernel
theorem dX6_readWord_43 : decode cX6_readWord 43 = .ok (.ifnull 39, 3) := by decide +kernel
theorem dX6_readWord_46 : decode cX6_readWord 46 = .ok (.aload_n 0, 1) := by decide +kernel
theorem dX6_readWord_47 : decode cX6_readWord 47 = .ok (.aload_n 1, 1) := by decide +kernel
theorem dX6_readWord_48 : decode cX6_readWord 48 = .ok (.aload 4, 2) := by decide +kernel
theorem dX6_readWord_50 : decode cX6_readWord 50 = .ok (.iconst 0, 1) := by decide +kernel
theorem dX6_readWord_51 : decode cX6_readWord 51 = .ok (.invokevirtual 95, 3) := by decide +kernel
theorem dX6_readWord_54 : decode cX6_readWord 54 = .ok (.aload_n 0, 1) := by decide +kernel
theorem dX6_readWord_55 : decode cX6_readWord 55 = .ok (.getfield 43, 3) := by decide +kernel
theorem dX6_readWord_58 : decode cX6_readWord 58 = .ok (.ifCond .ne 79, 3) := by decide +kernel
theorem dX6_readWord_61 : decode cX6_readWord 61 = .ok (.aload 4, 2) := by decide +kernel
theorem dX6_readWord_63 : decode cX6_readWord 63 = .ok (.invokevirtual 103, 3) := by decide +kernel
theorem dX6_readWord_66 : decode cX6_readWord 66 = .ok (.ifCond .eq 71, 3) := by decide +kernel
theorem dX6_readWord_69 : decode cX6_readWord 69 = .ok (.aload_n 0, 1) := by decide +kernel
theorem dX6_readWord_70 : decode cX6_readWord 70 = .ok (.aload_n 1, 1) := by decide +kernel
theorem dX6_readWord_71 : decode cX6_readWord 71 = .ok (.getfield 31, 3) := by decide +kernel
theorem dX6_readWord_74 : decode cX6_readWord 74 = .ok (.iconst 1, 1) := by decide +kernel
theorem dX6_readWord_75 : decode cX6_readWord 75 = .ok (.isub, 1) := by decide +kernel
theorem dX6_readWord_76 : decode cX6_readWord 76 = .ok (.invokevirtual 106, 3) := by decide +kernel
theorem dX6_readWord_79 : decode cX6_readWord 79 = .ok (.goto 58, 3) := by decide +kernel
theorem dX6_readWord_82 : decode cX6_readWord 82 = .ok (.aload_n 0, 1) := by decide +kernel
theorem dX6_readWord_83 : decode cX6_readWord 83 = .ok (.getfield 27, 3) := by decide +kernel
theorem dX6_readWord_86 : decode cX6_readWord 86 = .ok (.aload_n 0, 1) := by decide +kernel
theorem dX6_readWord_87 : decode cX6_readWord 87 = .ok (.getfield 40, 3) := by decide +kernel
theorem dX6_readWord_90 : decode cX6_readWord 90 = .ok (.iconst 1, 1) := by decide +kernel
theorem dX6_readWord_91 : decode cX6_readWord 91 = .ok (.isub, 1) := by decide +kernel
theorem dX6_readWord_92 : decode cX6_readWord 92 = .ok (.invokevirtual 76, 3) := by decide +kernel
theorem dX6_readWord_95 : decode cX6_readWord 95 = .ok (.bipush 58, 2) := by decide +kernel
theorem dX6_readWord_97 : decode cX6_readWord 97 = .ok (.if_icmp .ne 31, 3) := by decide +kernel
theorem dX6_readWord_100 : decode cX6_readWord 100 = .ok (.aload_n 0, 1) := by decide +kernel
theorem dX6_readWord_101 : decode cX6_readWord 101 = .ok (.aload_n 0, 1) := by decide +kernel
theorem dX6_readWord_102 : decode cX6_readWord 102 = .ok (.getfield 73, 3) := by decide +kernel
theorem dX6_readWord_105 : decode cX6_readWord 105 = .ok (.aload_n 0, 1) := by decide +kernel
theorem dX6_readWord_106 : decode cX6_readWord 106 = .ok (.getfield 40, 3) := by decide +kernel
theorem dX6_readWord_109 : decode cX6_readWord 109 = .ok (.iconst 1, 1) := by decide +kernel
theorem dX6_readWord_110 : decode cX6_readWord 110 = .ok (.isub, 1) := by decide +kernel
theorem dX6_readWord_111 : decode cX6_readWord 111 = .ok (.invokevirtual 110, 3) := by decide +kernel
theorem dX6_readWord_114 : decode cX6_readWord 114 = .ok (.ifCond .eq 14, 3) := by decide +kernel
theorem dX6_readWord_117 : decode cX6_readWord 117 = .ok (.aload_n 0, 1) := by decide +kernel
theorem dX6_readWord_118 : decode cX6_readWord 118 = .ok (.aload_n 1, 1) := by decide +kernel
theorem dX6_readWord_119 : decode cX6_readWord 119 = .ok (.getfield 31, 3) := by decide +kernel
theorem dX6_readWord_122 : decode cX6_readWord 122 = .ok (.invokevirtual 114, 3) := by decide +kernel
theorem dX6_readWord_125 : decode cX6_readWord 125 = .ok (.goto 12, 3) := by decide +kernel
theorem dX6_readWord_128 : decode cX6_readWord 128 = .ok (.aload_n 0, 1) := by decide +kernel
theorem dX6_readWord_129 : decode cX6_readWord 129 = .ok (.iconst 1, 1) := by decide +kernel
theorem dX6_readWord_130 : decode cX6_readWord 130 = .ok (.aload_n 0, 1) := by decide +kernel
theorem dX6_readWord_131 : decode cX6_readWord 131 = .ok (.getfield 73, 3) := by decide +kernel
theorem dX6_readWord_134 : decode cX6_readWord 134 = .ok (.invokevirtual 65, 3) := by decide +kernel
theorem dX6_readWord_137 : decode cX6_readWord 137 = .ok (.return_, 1) := by decide +kernel
theorem dX6_addInstruction_0 : decode cX6_addInstruction 0 = .ok (.aload_n 1, 1) := by decide +kernel
theorem dX6_addInstruction_1 : decode cX6_addInstruction 1 = .ok (.getfield 31, 3) := by decide +kernel
theorem dX6_addInstruction_4 : decode cX6_addInstruction 4 = .ok (.istore 4, 2) := by decide +kernel
theorem dX6_addInstruction_6 : decode cX6_addInstruction 6 = .ok (.iload 4, 2) := by decide +kernel
theorem dX6_addInstruction_8 : decode cX6_addInstruction 8 = .ok (.sipush 256, 3) := by decide +kernel
theorem dX6_addInstruction_11 : decode cX6_addInstruction 11 = .ok (.if_icmp .lt 13, 3) := by decide +kernel
theorem dX6_addInstruction_14 : decode cX6_addInstruction 14 = .ok (.aload_n 0, 1) := by decide +kernel
theorem dX6_addInstruction_15 : decode cX6_addInstruction 15 = .ok (.iconst 5, 1) := by decide +kernel
theorem dX6_addInstruction_16 : decode cX6_addInstruction 16 = .ok (.aload_n 0, 1) := by decide +kernel
theorem dX6_addInstruction_17 : decode cX6_addInstruction 17 = .ok (.getfield 73, 3) := by decide +kernel
theorem dX6_addInstruction_20 : decode cX6_addInstruction 20 = .ok (.invokevirtual 65, 3) := by decide +kernel
theorem dX6_addInstruction_23 : decode cX6_addInstruction 23 = .ok (.return_, 1) := by decide +kernel
theorem dX6_addInstruction_24 : decode cX6_addInstruction 24 = .ok (.aload_n 1, 1) := by decide +kernel
theorem dX6_addInstruction_25 : decode cX6_addInstruction 25 = .ok (.getfield 117, 3) := by decide +kernel
theorem dX6_addInstruction_28 : decode cX6_addInstruction 28 = .ok (.iload 4, 2) := by decide +kernel
theorem dX6_addInstruction_30 : decode cX6_addInstruction 30 = .ok (.aload_n 2, 1) := by decide +kernel
theorem dX6_addInstruction_31 : decode cX6_addInstruction 31 = .ok (.aastore, 1) := by decide +kernel
theorem dX6_addInstruction_32 : decode cX6_addInstruction 32 = .ok (.aload_n 1, 1) := by decide +kernel
theorem dX6_addInstruction_33 : decode cX6_addInstruction 33 = .ok (.getfield 121, 3) := by decide +kernel
theorem dX6_addInstruction_36 : decode cX6_addInstruction 36 = .ok (.iload 4, 2) := by decide +kernel
theorem dX6_addInstruction_38 : decode cX6_addInstruction 38 = .ok (.iload_n 3, 1) := by decide +kernel
theorem dX6_addInstruction_39 : decode cX6_addInstruction 39 = .ok (.iastore, 1) := by decide +kernel
theorem dX6_addInstruction_40 : decode cX6_addInstruction 40 = .ok (.aload_n 0, 1) := by decide +kernel
theorem dX6_addInstruction_41 : decode cX6_addInstruction 41 = .ok (.getfield 24, 3) := by decide +kernel
theorem dX6_addInstruction_44 : decode cX6_addInstruction 44 = .ok (.iload 4, 2) := by decide +kernel
theorem dX6_addInstruction_46 : decode cX6_addInstruction 46 = .ok (.iconst 0, 1) := by decide +kernel
theorem dX6_addInstruction_47 : decode cX6_addInstruction 47 = .ok (.iastore, 1) := by decide +kernel
theorem dX6_addInstruction_48 : decode cX6_addInstruction 48 = .ok (.aload_n 1, 1) := by decide +kernel
theorem dX6_addInstruction_49 : decode cX6_addInstruction 49 = .ok (.iload 4, 2) := by decide +kernel
theorem dX6_addInstruction_51 : decode cX6_addInstruction 51 = .ok (.iconst 1, 1) := by decide +kernel
theorem dX6_addInstruction_52 : decode cX6_addInstruction 52 = .ok (.iadd, 1) := by decide +kernel
theorem dX6_addInstruction_53 : decode cX6_addInstruction 53 = .ok (.putfield 31, 3) := by decide +kernel
theorem dX6_addInstruction_56 : decode cX6_addInstruction 56 = .ok (.return_, 1) := by decide +kernel
theorem dX6_readName_0 : decode cX6_readName 0 = .ok (.aload_n 0, 1) := by decide +kernel
theorem dX6_readName_1 : decode cX6_readName 1 = .ok (.invokevirtual 49, 3) := by decide +kernel
theorem dX6_readName_4 : decode cX6_readName 4 = .ok (.ifCond .eq 18, 3) := by decide +kernel
theorem dX6_readName_7 : decode cX6_readName 7 = .ok (.aload_n 0, 1) := by decide +kernel
theorem dX6_readName_8 : decode cX6_readName 8 = .ok (.aload_n 0, 1) := by decide +kernel
theorem dX6_readName_9 : decode cX6_readName 9 = .ok (.getfield 73, 3) := by decide +kernel
theorem dX6_readName_12 : decode cX6_readName 12 = .ok (.aload_n 0, 1) := by decide +kernel
theorem dX6_readName_13 : decode cX6_readName 13 = .ok (.getfield 40, 3) := by decide +kernel
theorem dX6_readName_16 : decode cX6_readName 16 = .ok (.invokevirtual 110, 3) := by decide +kernel
theorem dX6_readName_19 : decode cX6_readName 19 = .ok (.ifCond .ne 15, 3) := by decide +kernel
theorem dX6_readName_22 : decode cX6_readName 22 = .ok (.aload_n 0, 1) := by decide +kernel
theorem dX6_readName_23 : decode cX6_readName 23 = .ok (.iconst 2, 1) := by decide +kernel
theorem dX6_readName_24 : decode cX6_readName 24 = .ok (.aload_n 0, 1) := by decide +kernel
theorem dX6_readName_25 : decode cX6_readName 25 = .ok (.getfield 73, 3) := by decide +kernel
theorem dX6_readName_28 : decode cX6_readName 28 = .ok (.invokevirtual 65, 3) := by decide +kernel
theorem dX6_readName_31 : decode cX6_readName 31 = .ok (.goto 39, 3) := by decide +kernel
theorem dX6_readName_34 : decode cX6_readName 34 = .ok (.iload_n 1, 1) := by decide +kernel
theorem dX6_readName_35 : decode cX6_readName 35 = .ok (.ifCond .lt 35, 3) := by decide +kernel
theorem dX6_readName_38 : decode cX6_readName 38 = .ok (.iload_n 1, 1) := by decide +kernel
theorem dX6_readName_39 : decode cX6_readName 39 = .ok (.sipush 256, 3) := by decide +kernel
theorem dX6_readName_42 : decode cX6_readName 42 = .ok (.if_icmp .ge 28, 3) := by decide +kernel
theorem dX6_readName_45 : decode cX6_readName 45 = .ok (.aload_n 0, 1) := by decide +kernel
theorem dX6_readName_46 : decode cX6_readName 46 = .ok (.getfield 21, 3) := by decide +kernel
theorem dX6_readName_49 : decode cX6_readName 49 = .ok (.iload_n 1, 1) := by decide +kernel
theorem dX6_readName_50 : decode cX6_readName 50 = .ok (.aload_n 0, 1) := by decide +kernel
theorem dX6_readName_51 : decode cX6_readName 51 = .ok (.getfield 73, 3) := by decide +kernel
theorem dX6_readName_54 : decode cX6_readName 54 = .ok (.iastore, 1) := by decide +kernel
theorem dX6_readName_55 : decode cX6_readName 55 = .ok (.aload_n 0, 1) := by decide +kernel
theorem dX6_readName_56 : decode cX6_readName 56 = .ok (.getfield 24, 3) := by decide +kernel
theorem dX6_readName_59 : decode cX6_readName 59 = .ok (.iload_n 1, 1) := by decide +kernel
theorem dX6_readName_60 : decode cX6_readName 60 = .ok (.aload_n 0, 1) := by decide +kernel
theorem dX6_readName_61 : decode cX6_readName 61 = .ok (.getfield 40, 3) := by decide +kernel
theorem dX6_readName_64 : decode cX6_readName 64 = .ok (.aload_n 0, 1) := by decide +kernel
theorem dX6_readName_65 : decode cX6_readName 65 = .ok (.getfield 73, 3) := by decide +kernel
theorem dX6_readName_68 : decode cX6_readName 68 = .ok (.isub, 1) := by decide +kernel
theorem dX6_readName_69 : decode cX6_readName 69 = .ok (.iastore, 1) := by decide +kernel
theorem dX6_readName_70 : decode cX6_readName 70 = .ok (.return_, 1) := by decide +kernel
theorem dX6_addLabel_0 : decode cX6_addLabel 0 = .ok (.aload_n 0, 1) := by decide +kernel
theorem dX6_addLabel_1 : decode cX6_addLabel 1 = .ok (.getfield 40, 3) := by decide +kernel
theorem dX6_addLabel_4 : decode cX6_addLabel 4 = .ok (.iconst 1, 1) := by decide +kernel
theorem dX6_addLabel_5 : decode cX6_addLabel 5 = .ok (.isub, 1) := by decide +kernel
theorem dX6_addLabel_6 : decode cX6_addLabel 6 = .ok (.aload_n 0, 1) := by decide +kernel
theorem dX6_addLabel_7 : decode cX6_addLabel 7 = .ok (.getfield 73, 3) := by decide +kernel
theorem dX6_addLabel_10 : decode cX6_addLabel 10 = .ok (.isub, 1) := by decide +kernel
theorem dX6_addLabel_11 : decode cX6_addLabel 11 = .ok (.istore_n 2, 1) := by decide +kernel
theorem dX6_addLabel_12 : decode cX6_addLabel 12 = .ok (.aload_n 0, 1) := by decide +kernel
theorem dX6_addLabel_13 : decode cX6_addLabel 13 = .ok (.aload_n 0, 1) := by decide +kernel
theorem dX6_addLabel_14 : decode cX6_addLabel 14 = .ok (.getfield 73, 3) := by decide +kernel
theorem dX6_addLabel_17 : decode cX6_addLabel 17 = .ok (.iload_n 2, 1) := by decide +kernel
theorem dX6_addLabel_18 : decode cX6_addLabel 18 = .ok (.invokevirtual 124, 3) := by decide +kernel
theorem dX6_addLabel_21 : decode cX6_addLabel 21 = .ok (.iconst (-1), 1) := by decide +kernel
theorem dX6_addLabel_22 : decode cX6_addLabel 22 = .ok (.if_icmp .eq 15, 3) := by decide +kernel
theorem dX6_addLabel_25 : decode cX6_addLabel 25 = .ok (.aload_n 0, 1) := by decide +kernel
theorem dX6_addLabel_26 : decode cX6_addLabel 26 = .ok (.iconst 3, 1) := by decide +kernel
theorem dX6_addLabel_27 : decode cX6_addLabel 27 = .ok (.aload_n 0, 1) := by decide +kernel
theorem dX6_addLabel_28 : decode cX6_addLabel 28 = .ok (.getfield 73, 3) := by decide +kernel
theorem dX6_addLabel_31 : decode cX6_addLabel 31 = .ok (.invokevirtual 65, 3) := by decide +kernel
theorem dX6_addLabel_34 : decode cX6_addLabel 34 = .ok (.goto 67, 3) := by decide +kernel
theorem dX6_addLabel_37 : decode cX6_addLabel 37 = .ok (.aload_n 0, 1) := by decide +kernel
theorem dX6_addLabel_38 : decode cX6_addLabel 38 = .ok (.getfield 37, 3) := by decide +kernel
theorem dX6_addLabel_41 : decode cX6_addLabel 41 = .ok (.bipush 32, 2) := by decide +kernel
theorem dX6_addLabel_43 : decode cX6_addLabel 43 = .ok (.if_icmp .lt 15, 3) := by decide +kernel
theorem dX6_addLabel_46 : decode cX6_addLabel 46 = .ok (.aload_n 0, 1) := by decide +kernel
theorem dX6_addLabel_47 : decode cX6_addLabel 47 = .ok (.iconst 4, 1) := by decide +kernel
theorem dX6_addLabel_48 : decode cX6_addLabel 48 = .ok (.aload_n 0, 1) := by decide +kernel
theorem dX6_addLabel_49 : decode cX6_addLabel 49 = .ok (.getfield 73, 3) := by decide +kernel
theorem dX6_addLabel_52 : decode cX6_addLabel 52 = .ok (.invokevirtual 65, 3) := by decide +kernel
theorem dX6_addLabel_55 : decode cX6_addLabel 55 = .ok (.goto 46, 3) := by decide +kernel
theorem dX6_addLabel_58 : decode cX6_addLabel 58 = .ok (.aload_n 0, 1) := by decide +kernel
theorem dX6_addLabel_59 : decode cX6_addLabel 59 = .ok (.getfield 9, 3) := by decide +kernel
theorem dX6_addLabel_62 : decode cX6_addLabel 62 = .ok (.aload_n 0, 1) := by decide +kernel
theorem dX6_addLabel_63 : decode cX6_addLabel 63 = .ok (.getfield 37, 3) := by decide +kernel
theorem dX6_addLabel_66 : decode cX6_addLabel 66 = .ok (.aload_n 0, 1) := by decide +kernel
theorem dX6_addLabel_67 : decode cX6_addLabel 67 = .ok (.getfield 73, 3) := by decide +kernel
theorem dX6_addLabel_70 : decode cX6_addLabel 70 = .ok (.iastore, 1) := by decide +kernel
theorem dX6_addLabel_71 : decode cX6_addLabel 71 = .ok (.aload_n 0, 1) := by decide +kernel
theorem dX6_addLabel_72 : decode cX6_addLabel 72 = .ok (.getfield 15, 3) := by decide +kernel
theorem dX6_addLabel_75 : decode cX6_addLabel 75 = .ok (.aload_n 0, 1) := by decide +kernel
theorem dX6_addLabel_76 : decode cX6_addLabel 76 = .ok (.getfield 37, 3) := by decide +kernel
theorem dX6_addLabel_79 : decode cX6_addLabel 79 = .ok (.iload_n 2, 1) := by decide +kernel
theorem dX6_addLabel_80 : decode cX6_addLabel 80 = .ok (.iastore, 1) := by decide +kernel
theorem dX6_addLabel_81 : decode cX6_addLabel 81 = .ok (.aload_n 0, 1) := by decide +kernel
theorem dX6_addLabel_82 : decode cX6_addLabel 82 = .ok (.getfield 18, 3) := by decide +kernel
theorem dX6_addLabel_85 : decode cX6_addLabel 85 = .ok (.aload_n 0, 1) := by decide +kernel
theorem dX6_addLabel_86 : decode cX6_addLabel 86 = .ok (.getfield 37, 3) := by decide +kernel
theorem dX6_addLabel_89 : decode cX6_addLabel 89 = .ok (.iload_n 1, 1) := by decide +kernel
theorem dX6_addLabel_90 : decode cX6_addLabel 90 = .ok (.iastore, 1) := by decide +kernel
theorem dX6_addLabel_91 : decode cX6_addLabel 91 = .ok (.aload_n 0, 1) := by decide +kernel
theorem dX6_addLabel_92 : decode cX6_addLabel 92 = .ok (.dup, 1) := by decide +kernel
theorem dX6_addLabel_93 : decode cX6_addLabel 93 = .ok (.getfield 37, 3) := by decide +kernel
theorem dX6_addLabel_96 : decode cX6_addLabel 96 = .ok (.iconst 1, 1) := by decide +kernel
theorem dX6_addLabel_97 : decode cX6_addLabel 97 = .ok (.iadd, 1) := by decide +kernel
theorem dX6_addLabel_98 : decode cX6_addLabel 98 = .ok (.putfield 37, 3) := by decide +kernel
theorem dX6_addLabel_101 : decode cX6_addLabel 101 = .ok (.return_, 1) := by decide +kernel
theorem dX6_targetOf_0 : decode cX6_targetOf 0 = .ok (.iconst 0, 1) := by decide +kernel
theorem dX6_targetOf_1 : decode cX6_targetOf 1 = .ok (.istore_n 3, 1) := by decide +kernel
theorem dX6_targetOf_2 : decode cX6_targetOf 2 = .ok (.iload_n 3, 1) := by decide +kernel
theorem dX6_targetOf_3 : decode cX6_targetOf 3 = .ok (.aload_n 0, 1) := by decide +kernel
theorem dX6_targetOf_4 : decode cX6_targetOf 4 = .ok (.getfield 37, 3) := by decide +kernel
theorem dX6_targetOf_7 : decode cX6_targetOf 7 = .ok (.if_icmp .ge 44, 3) := by decide +kernel
theorem dX6_targetOf_10 : decode cX6_targetOf 10 = .ok (.aload_n 0, 1) := by decide +kernel
theorem dX6_targetOf_11 : decode cX6_targetOf 11 = .ok (.getfield 15, 3) := by decide +kernel
theorem dX6_targetOf_14 : decode cX6_targetOf 14 = .ok (.iload_n 3, 1) := by decide +kernel
theorem dX6_targetOf_15 : decode cX6_targetOf 15 = .ok (.iaload, 1) := by decide +kernel
theorem dX6_targetOf_16 : decode cX6_targetOf 16 = .ok (.iload_n 2, 1) := by decide +kernel
theorem dX6_targetOf_17 : decode cX6_targetOf 17 = .ok (.if_icmp .ne 28, 3) := by decide +kernel
theorem dX6_targetOf_20 : decode cX6_targetOf 20 = .ok (.aload_n 0, 1) := by decide +kernel
theorem dX6_targetOf_21 : decode cX6_targetOf 21 = .ok (.getfield 27, 3) := by decide +kernel
theorem dX6_targetOf_24 : decode cX6_targetOf 24 = .ok (.aload_n 0, 1) := by decide +kernel
theorem dX6_targetOf_25 : decode cX6_targetOf 25 = .ok (.getfield 9, 3) := by decide +kernel
theorem dX6_targetOf_28 : decode cX6_targetOf 28 = .ok (.iload_n 3, 1) := by decide +kernel
theorem dX6_targetOf_29 : decode cX6_targetOf 29 = .ok (.iaload, 1) := by decide +kernel
theorem dX6_targetOf_30 : decode cX6_targetOf 30 = .ok (.iload_n 1, 1) := by decide +kernel
theorem dX6_targetOf_31 : decode cX6_targetOf 31 = .ok (.iload_n 2, 1) := by decide +kernel
theorem dX6_targetOf_32 : decode cX6_targetOf 32 = .ok (.invokevirtual 128, 3) := by decide +kernel
theorem dX6_targetOf_35 : decode cX6_targetOf 35 = .ok (.ifCond .eq 10, 3) := by decide +kernel
theorem dX6_targetOf_38 : decode cX6_targetOf 38 = .ok (.aload_n 0, 1) := by decide +kernel
theorem dX6_targetOf_39 : decode cX6_targetOf 39 = .ok (.getfield 18, 3) := by decide +kernel
theorem dX6_targetOf_42 : decode cX6_targetOf 42 = .ok (.iload_n 3, 1) := by decide +kernel
theorem dX6_targetOf_43 : decode cX6_targetOf 43 = .ok (.iaload, 1) := by decide +kernel
theorem dX6_targetOf_44 : decode cX6_targetOf 44 = .ok (.ireturn, 1) := by decide +kernel
theorem dX6_targetOf_45 : decode cX6_targetOf 45 = .ok (.iinc 3 1, 3) := by decide +kernel
theorem dX6_targetOf_48 : decode cX6_targetOf 48 = .ok (.goto (-46), 3) := by decide +kernel
theorem dX6_targetOf_51 : decode cX6_targetOf 51 = .ok (.iconst (-1), 1) := by decide +kernel
theorem dX6_targetOf_52 : decode cX6_targetOf 52 = .ok (.ireturn, 1) := by decide +kernel
theorem dX6_findTargets_0 : decode cX6_findTargets 0 = .ok (.iconst 0, 1) := by decide +kernel
theorem dX6_findTargets_1 : decode cX6_findTargets 1 = .ok (.istore_n 2, 1) := by decide +kernel
theorem dX6_findTargets_2 : decode cX6_findTargets 2 = .ok (.iload_n 2, 1) := by decide +kernel
theorem dX6_findTargets_3 : decode cX6_findTargets 3 = .ok (.aload_n 1, 1) := by decide +kernel
theorem dX6_findTargets_4 : decode cX6_findTargets 4 = .ok (.getfield 31, 3) := by decide +kernel
theorem dX6_findTargets_7 : decode cX6_findTargets 7 = .ok (.if_icmp .ge 69, 3) := by decide +kernel
theorem dX6_findTargets_10 : decode cX6_findTargets 10 = .ok (.aload_n 0, 1) := by decide +kernel
theorem dX6_findTargets_11 : decode cX6_findTargets 11 = .ok (.getfield 43, 3) := by decide +kernel
theorem dX6_findTargets_14 : decode cX6_findTargets 14 = .ok (.ifCond .ne 62, 3) := by decide +kernel
theorem dX6_findTargets_17 : decode cX6_findTargets 17 = .ok (.aload_n 0, 1) := by decide +kernel
theorem dX6_findTargets_18 : decode cX6_findTargets 18 = .ok (.getfield 24, 3) := by decide +kernel
theorem dX6_findTargets_21 : decode cX6_findTargets 21 = .ok (.iload_n 2, 1) := by decide +kernel
theorem dX6_findTargets_22 : decode cX6_findTargets 22 = .ok (.iaload, 1) := by decide +kernel
theorem dX6_findTargets_23 : decode cX6_findTargets 23 = .ok (.ifCond .le 47, 3) := by decide +kernel
theorem dX6_findTargets_26 : decode cX6_findTargets 26 = .ok (.aload_n 1, 1) := by decide +kernel
theorem dX6_findTargets_27 : decode cX6_findTargets 27 = .ok (.getfield 121, 3) := by decide +kernel
theorem dX6_findTargets_30 : decode cX6_findTargets 30 = .ok (.iload_n 2, 1) := by decide +kernel
theorem dX6_findTargets_31 : decode cX6_findTargets 31 = .ok (.aload_n 0, 1) := by decide +kernel
theorem dX6_findTargets_32 : decode cX6_findTargets 32 = .ok (.aload_n 0, 1) := by decide +kernel
theorem dX6_findTargets_33 : decode cX6_findTargets 33 = .ok (.getfield 21, 3) := by decide +kernel
theorem dX6_findTargets_36 : decode cX6_findTargets 36 = .ok (.iload_n 2, 1) := by decide +kernel
theorem dX6_findTargets_37 : decode cX6_findTargets 37 = .ok (.iaload, 1) := by decide +kernel
theorem dX6_findTargets_38 : decode cX6_findTargets 38 = .ok (.aload_n 0, 1) := by decide +kernel
theorem dX6_findTargets_39 : decode cX6_findTargets 39 = .ok (.getfield 24, 3) := by decide +kernel
theorem dX6_findTargets_42 : decode cX6_findTargets 42 = .ok (.iload_n 2, 1) := by decide +kernel
theorem dX6_findTargets_43 : decode cX6_findTargets 43 = .ok (.iaload, 1) := by decide +kernel
theorem dX6_findTargets_44 : decode cX6_findTargets 44 = .ok (.invokevirtual 124, 3) := by decide +kernel
theorem dX6_findTargets_47 : decode cX6_findTargets 47 = .ok (.iastore, 1) := by decide +kernel
theorem dX6_findTargets_48 : decode cX6_findTargets 48 = .ok (.aload_n 1, 1) := by decide +kernel
theorem dX6_findTargets_49 : decode cX6_findTargets 49 = .ok (.getfield 121, 3) := by decide +kernel
theorem dX6_findTargets_52 : decode cX6_findTargets 52 = .ok (.iload_n 2, 1) := by decide +kernel
theorem dX6_findTargets_53 : decode cX6_findTargets 53 = .ok (.iaload, 1) := by decide +kernel
theorem dX6_findTargets_54 : decode cX6_findTargets 54 = .ok (.iconst (-1), 1) := by decide +kernel
theorem dX6_findTargets_55 : decode cX6_findTargets 55 = .ok (.if_icmp .ne 15, 3) := by decide +kernel
theorem dX6_findTargets_58 : decode cX6_findTargets 58 = .ok (.aload_n 0, 1) := by decide +kernel
theorem dX6_findTargets_59 : decode cX6_findTargets 59 = .ok (.bipush 6, 2) := by decide +kernel
theorem dX6_findTargets_61 : decode cX6_findTargets 61 = .ok (.aload_n 0, 1) := by decide +kernel
theorem dX6_findTargets_62 : decode cX6_findTargets 62 = .ok (.getfield 21, 3) := by decide +kernel
theorem dX6_findTargets_65 : decode cX6_findTargets 65 = .ok (.iload_n 2, 1) := by decide +kernel
theorem dX6_findTargets_66 : decode cX6_findTargets 66 = .ok (.iaload, 1) := by decide +kernel
theorem dX6_findTargets_67 : decode cX6_findTargets 67 = .ok (.invokevirtual 65, 3) := by decide +kernel
theorem dX6_findTargets_70 : decode cX6_findTargets 70 = .ok (.iinc 2 1, 3) := by decide +kernel
theorem dX6_findTargets_73 : decode cX6_findTargets 73 = .ok (.goto (-71), 3) := by decide +kernel
theorem dX6_findTargets_76 : decode cX6_findTargets 76 = .ok (.return_, 1) := by decide +kernel
theorem dX6_numberHere_0 : decode cX6_numberHere 0 = .ok (.aload_n 0, 1) := by decide +kernel
theorem dX6_numberHere_1 : decode cX6_numberHere 1 = .ok (.getfield 27, 3) := by decide +kernel
theorem dX6_numberHere_4 : decode cX6_numberHere 4 = .ok (.aload_n 0, 1) := by decide +kernel
theorem dX6_numberHere_5 : decode cX6_numberHere 5 = .ok (.getfield 73, 3) := by decide +kernel
theorem dX6_numberHere_8 : decode cX6_numberHere 8 = .ok (.invokevirtual 76, 3) := by decide +kernel
theorem dX6_numberHere_11 : decode cX6_numberHere 11 = .ok (.bipush 45, 2) := by decide +kernel
theorem dX6_numberHere_13 : decode cX6_numberHere 13 = .ok (.if_icmp .ne 7, 3) := by decide +kernel
theorem dX6_numberHere_16 : decode cX6_numberHere 16 = .ok (.iconst 1, 1) := by decide +kernel
theorem dX6_numberHere_17 : decode cX6_numberHere 17 = .ok (.goto 4, 3) := by decide +kernel
theorem dX6_numberHere_20 : decode cX6_numberHere 20 = .ok (.iconst 0, 1) := by decide +kernel
theorem dX6_numberHere_21 : decode cX6_numberHere 21 = .ok (.istore_n 1, 1) := by decide +kernel
theorem dX6_numberHere_22 : decode cX6_numberHere 22 = .ok (.iload_n 1, 1) := by decide +kernel
theorem dX6_numberHere_23 : decode cX6_numberHere 23 = .ok (.ifCond .eq 12, 3) := by decide +kernel
theorem dX6_numberHere_26 : decode cX6_numberHere 26 = .ok (.aload_n 0, 1) := by decide +kernel
theorem dX6_numberHere_27 : decode cX6_numberHere 27 = .ok (.getfield 73, 3) := by decide +kernel
theorem dX6_numberHere_30 : decode cX6_numberHere 30 = .ok (.iconst 1, 1) := by decide +kernel
theorem dX6_numberHere_31 : decode cX6_numberHere 31 = .ok (.iadd, 1) := by decide +kernel
theorem dX6_numberHere_32 : decode cX6_numberHere 32 = .ok (.goto 7, 3) := by decide +kernel
theorem dX6_numberHere_35 : decode cX6_numberHere 35 = .ok (.aload_n 0, 1) := by decide +kernel
theorem dX6_numberHere_36 : decode cX6_numberHere 36 = .ok (.getfield 73, 3) := by decide +kernel
theorem dX6_numberHere_39 : decode cX6_numberHere 39 = .ok (.istore_n 2, 1) := by decide +kernel
theorem dX6_numberHere_40 : decode cX6_numberHere 40 = .ok (.lconst 0, 1) := by decide +kernel
theorem dX6_numberHere_41 : decode cX6_numberHere 41 = .ok (.lstore_n 3, 1) := by decide +kernel
theorem dX6_numberHere_42 : decode cX6_numberHere 42 = .ok (.iload_n 2, 1) := by decide +kernel
theorem dX6_numberHere_43 : decode cX6_numberHere 43 = .ok (.istore 5, 2) := by decide +kernel
theorem dX6_numberHere_45 : decode cX6_numberHere 45 = .ok (.iload 5, 2) := by decide +kernel
theorem dX6_numberHere_47 : decode cX6_numberHere 47 = .ok (.aload_n 0, 1) := by decide +kernel
theorem dX6_numberHere_48 : decode cX6_numberHere 48 = .ok (.getfield 40, 3) := by decide +kernel
theorem dX6_numberHere_51 : decode cX6_numberHere 51 = .ok (.if_icmp .ge 51, 3) := by decide +kernel
theorem dX6_numberHere_54 : decode cX6_numberHere 54 = .ok (.aload_n 0, 1) := by decide +kernel
theorem dX6_numberHere_55 : decode cX6_numberHere 55 = .ok (.getfield 27, 3) := by decide +kernel
theorem dX6_numberHere_58 : decode cX6_numberHere 58 = .ok (.iload 5, 2) := by decide +kernel
theorem dX6_numberHere_60 : decode cX6_numberHere 60 = .ok (.invokevirtual 76, 3) := by decide +kernel
theorem dX6_numberHere_63 : decode cX6_numberHere 63 = .ok (.istore 6, 2) := by decide +kernel
theorem dX6_numberHere_65 : decode cX6_numberHere 65 = .ok (.iload 6, 2) := by decide +kernel
theorem dX6_numberHere_67 : decode cX6_numberHere 67 = .ok (.invokestatic 132, 3) := by decide +kernel
theorem dX6_numberHere_70 : decode cX6_numberHere 70 = .ok (.ifCond .ne 7, 3) := by decide +kernel
theorem dX6_numberHere_73 : decode cX6_numberHere 73 = .ok (.ldc2_w 87, 3) := by decide +kernel
theorem dX6_numberHere_76 : decode cX6_numberHere 76 = .ok (.lreturn, 1) := by decide +kernel
theorem dX6_numberHere_77 : decode cX6_numberHere 77 = .ok (.lload_n 3, 1) := by decide +kernel
theorem dX6_numberHere_78 : decode cX6_numberHere 78 = .ok (.ldc2_w 135, 3) := by decide +kernel
theorem dX6_numberHere_81 : decode cX6_numberHere 81 = .ok (.lmul, 1) := by decide +kernel
theorem dX6_numberHere_82 : decode cX6_numberHere 82 = .ok (.iload 6, 2) := by decide +kernel
theorem dX6_numberHere_84 : decode cX6_numberHere 84 = .ok (.bipush 48, 2) := by decide +kernel
theorem dX6_numberHere_86 : decode cX6_numberHere 86 = .ok (.isub, 1) := by decide +kernel
theorem dX6_numberHere_87 : decode cX6_numberHere 87 = .ok (.i2l, 1) := by decide +kernel
theorem dX6_numberHere_88 : decode cX6_numberHere 88 = .ok (.ladd, 1) := by decide +kernel
theorem dX6_numberHere_89 : decode cX6_numberHere 89 = .ok (.ldc2_w 137, 3) := by decide +kernel
theorem dX6_numberHere_92 : decode cX6_numberHere 92 = .ok (.invokestatic 139, 3) := by decide +kernel
theorem dX6_numberHere_95 : decode cX6_numberHere 95 = .ok (.lstore_n 3, 1) := by decide +kernel
theorem dX6_numberHere_96 : decode cX6_numberHere 96 = .ok (.iinc 5 1, 3) := by decide +kernel
theorem dX6_numberHere_99 : decode cX6_numberHere 99 = .ok (.goto (-54), 3) := by decide +kernel
theorem dX6_numberHere_102 : decode cX6_numberHere 102 = .ok (.iload_n 2, 1) := by decide +kernel
theorem dX6_numberHere_103 : decode cX6_numberHere 103 = .ok (.aload_n 0, 1) := by decide +kernel
theorem dX6_numberHere_104 : decode cX6_numberHere 104 = .ok (.getfield 40, 3) := by decide +kernel
theorem dX6_numberHere_107 : decode cX6_numberHere 107 = .ok (.if_icmp .eq 23, 3) := by decide +kernel
theorem dX6_numberHere_110 : decode cX6_numberHere 110 = .ok (.lload_n 3, 1) := by decide +kernel
theorem dX6_numberHere_111 : decode cX6_numberHere 111 = .ok (.ldc2_w 145, 3) := by decide +kernel
theorem dX6_numberHere_114 : decode cX6_numberHere 114 = .ok (.lcmp, 1) := by decide +kernel
theorem dX6_numberHere_115 : decode cX6_numberHere 115 = .ok (.ifCond .gt 15, 3) := by decide +kernel
theorem dX6_numberHere_118 : decode cX6_numberHere 118 = .ok (.iload_n 1, 1) := by decide +kernel
theorem dX6_numberHere_119 : decode cX6_numberHere 119 = .ok (.ifCond .ne 15, 3) := by decide +kernel
theorem dX6_numberHere_122 : decode cX6_numberHere 122 = .ok (.lload_n 3, 1) := by decide +kernel
theorem dX6_numberHere_123 : decode cX6_numberHere 123 = .ok (.ldc2_w 145, 3) := by decide +kernel
theorem dX6_numberHere_126 : decode cX6_numberHere 126 = .ok (.lcmp, 1) := by decide +kernel
theorem dX6_numberHere_127 : decode cX6_numberHere 127 = .ok (.ifCond .ne 7, 3) := by decide +kernel
theorem dX6_numberHere_130 : decode cX6_numberHere 130 = .ok (.ldc2_w 87, 3) := by decide +kernel
theorem dX6_numberHere_133 : decode cX6_numberHere 133 = .ok (.lreturn, 1) := by decide +kernel
theorem dX6_numberHere_134 : decode cX6_numberHere 134 = .ok (.iload_n 1, 1) := by decide +kernel
theorem dX6_numberHere_135 : decode cX6_numberHere 135 = .ok (.ifCond .eq 8, 3) := by decide +kernel
theorem dX6_numberHere_138 : decode cX6_numberHere 138 = .ok (.lload_n 3, 1) := by decide +kernel
theorem dX6_numberHere_139 : decode cX6_numberHere 139 = .ok (.lneg, 1) := by decide +kernel
theorem dX6_numberHere_140 : decode cX6_numberHere 140 = .ok (.goto 4, 3) := by decide +kernel
theorem dX6_numberHere_143 : decode cX6_numberHere 143 = .ok (.lload_n 3, 1) := by decide +kernel
theorem dX6_numberHere_144 : decode cX6_numberHere 144 = .ok (.lreturn, 1) := by decide +kernel
theorem dX6_isName_0 : decode cX6_isName 0 = .ok (.iload_n 2, 1) := by decide +kernel
theorem dX6_isName_1 : decode cX6_isName 1 = .ok (.iload_n 1, 1) := by decide +kernel
theorem dX6_isName_2 : decode cX6_isName 2 = .ok (.isub, 1) := by decide +kernel
theorem dX6_isName_3 : decode cX6_isName 3 = .ok (.iconst 1, 1) := by decide +kernel
theorem dX6_isName_4 : decode cX6_isName 4 = .ok (.if_icmp .lt 25, 3) := by decide +kernel
theorem dX6_isName_7 : decode cX6_isName 7 = .ok (.iload_n 2, 1) := by decide +kernel
theorem dX6_isName_8 : decode cX6_isName 8 = .ok (.iload_n 1, 1) := by decide +kernel
theorem dX6_isName_9 : decode cX6_isName 9 = .ok (.isub, 1) := by decide +kernel
theorem dX6_isName_10 : decode cX6_isName 10 = .ok (.bipush 12, 2) := by decide +kernel
theorem dX6_isName_12 : decode cX6_isName 12 = .ok (.if_icmp .gt 17, 3) := by decide +kernel
theorem dX6_isName_15 : decode cX6_isName 15 = .ok (.aload_n 0, 1) := by decide +kernel
theorem dX6_isName_16 : decode cX6_isName 16 = .ok (.getfield 27, 3) := by decide +kernel
theorem dX6_isName_19 : decode cX6_isName 19 = .ok (.iload_n 1, 1) := by decide +kernel
theorem dX6_isName_20 : decode cX6_isName 20 = .ok (.invokevirtual 76, 3) := by decide +kernel
theorem dX6_isName_23 : decode cX6_isName 23 = .ok (.invokestatic 147, 3) := by decide +kernel
theorem dX6_isName_26 : decode cX6_isName 26 = .ok (.ifCond .ne 5, 3) := by decide +kernel
theorem dX6_isName_29 : decode cX6_isName 29 = .ok (.iconst 0, 1) := by decide +kernel
theorem dX6_isName_30 : decode cX6_isName 30 = .ok (.ireturn, 1) := by decide +kernel
theorem dX6_isName_31 : decode cX6_isName 31 = .ok (.iload_n 1, 1) := by decide +kernel
theorem dX6_isName_32 : decode cX6_isName 32 = .ok (.iconst 1, 1) := by decide +kernel
theorem dX6_isName_33 : decode cX6_isName 33 = .ok (.iadd, 1) := by decide +kernel
theorem dX6_isName_34 : decode cX6_isName 34 = .ok (.istore_n 3, 1) := by decide +kernel
theorem dX6_isName_35 : decode cX6_isName 35 = .ok (.iload_n 3, 1) := by decide +kernel
theorem dX6_isName_36 : decode cX6_isName 36 = .ok (.iload_n 2, 1) := by decide +kernel
theorem dX6_isName_37 : decode cX6_isName 37 = .ok (.if_icmp .ge 39, 3) := by decide +kernel
theorem dX6_isName_40 : decode cX6_isName 40 = .ok (.aload_n 0, 1) := by decide +kernel
theorem dX6_isName_41 : decode cX6_isName 41 = .ok (.getfield 27, 3) := by decide +kernel
theorem dX6_isName_44 : decode cX6_isName 44 = .ok (.iload_n 3, 1) := by decide +kernel
theorem dX6_isName_45 : decode cX6_isName 45 = .ok (.invokevirtual 76, 3) := by decide +kernel
theorem dX6_isName_48 : decode cX6_isName 48 = .ok (.invokestatic 147, 3) := by decide +kernel
theorem dX6_isName_51 : decode cX6_isName 51 = .ok (.ifCond .ne 19, 3) := by decide +kernel
theorem dX6_isName_54 : decode cX6_isName 54 = .ok (.aload_n 0, 1) := by decide +kernel
theorem dX6_isName_55 : decode cX6_isName 55 = .ok (.getfield 27, 3) := by decide +kernel
theorem dX6_isName_58 : decode cX6_isName 58 = .ok (.iload_n 3, 1) := by decide +kernel
theorem dX6_isName_59 : decode cX6_isName 59 = .ok (.invokevirtual 76, 3) := by decide +kernel
theorem dX6_isName_62 : decode cX6_isName 62 = .ok (.invokestatic 132, 3) := by decide +kernel
theorem dX6_isName_65 : decode cX6_isName 65 = .ok (.ifCond .ne 5, 3) := by decide +kernel
theorem dX6_isName_68 : decode cX6_isName 68 = .ok (.iconst 0, 1) := by decide +kernel
theorem dX6_isName_69 : decode cX6_isName 69 = .ok (.ireturn, 1) := by decide +kernel
theorem dX6_isName_70 : decode cX6_isName 70 = .ok (.iinc 3 1, 3) := by decide +kernel
theorem dX6_isName_73 : decode cX6_isName 73 = .ok (.goto (-38), 3) := by decide +kernel
theorem dX6_isName_76 : decode cX6_isName 76 = .ok (.aload_n 0, 1) := by decide +kernel
theorem dX6_isName_77 : decode cX6_isName 77 = .ok (.getfield 27, 3) := by decide +kernel
theorem dX6_isName_80 : decode cX6_isName 80 = .ok (.iload_n 1, 1) := by decide +kernel
theorem dX6_isName_81 : decode cX6_isName 81 = .ok (.iload_n 2, 1) := by decide +kernel
theorem dX6_isName_82 : decode cX6_isName 82 = .ok (.invokestatic 99, 3) := by decide +kernel
theorem dX6_isName_85 : decode cX6_isName 85 = .ok (.ifnonnull 7, 3) := by decide +kernel
theorem dX6_isName_88 : decode cX6_isName 88 = .ok (.iconst 1, 1) := by decide +kernel
theorem dX6_isName_89 : decode cX6_isName 89 = .ok (.goto 4, 3) := by decide +kernel
theorem dX6_isName_92 : decode cX6_isName 92 = .ok (.iconst 0, 1) := by decide +kernel
theorem dX6_isName_93 : decode cX6_isName 93 = .ok (.ireturn, 1) := by decide +kernel
theorem dX6_isBlank_0 : decode cX6_isBlank 0 = .ok (.iload_n 0, 1) := by decide +kernel
theorem dX6_isBlank_1 : decode cX6_isBlank 1 = .ok (.bipush 9, 2) := by decide +kernel
theorem dX6_isBlank_3 : decode cX6_isBlank 3 = .ok (.if_icmp .eq 21, 3) := by decide +kernel
theorem dX6_isBlank_6 : decode cX6_isBlank 6 = .ok (.iload_n 0, 1) := by decide +kernel
theorem dX6_isBlank_7 : decode cX6_isBlank 7 = .ok (.bipush 10, 2) := by decide +kernel
theorem dX6_isBlank_9 : decode cX6_isBlank 9 = .ok (.if_icmp .eq 15, 3) := by decide +kernel
theorem dX6_isBlank_12 : decode cX6_isBlank 12 = .ok (.iload_n 0, 1) := by decide +kernel
theorem dX6_isBlank_13 : decode cX6_isBlank 13 = .ok (.bipush 13, 2) := by decide +kernel
theorem dX6_isBlank_15 : decode cX6_isBlank 15 = .ok (.if_icmp .eq 9, 3) := by decide +kernel
theorem dX6_isBlank_18 : decode cX6_isBlank 18 = .ok (.iload_n 0, 1) := by decide +kernel
theorem dX6_isBlank_19 : decode cX6_isBlank 19 = .ok (.bipush 32, 2) := by decide +kernel
theorem dX6_isBlank_21 : decode cX6_isBlank 21 = .ok (.if_icmp .ne 7, 3) := by decide +kernel
theorem dX6_isBlank_24 : decode cX6_isBlank 24 = .ok (.iconst 1, 1) := by decide +kernel
theorem dX6_isBlank_25 : decode cX6_isBlank 25 = .ok (.goto 4, 3) := by decide +kernel
theorem dX6_isBlank_28 : decode cX6_isBlank 28 = .ok (.iconst 0, 1) := by decide +kernel
theorem dX6_isBlank_29 : decode cX6_isBlank 29 = .ok (.ireturn, 1) := by decide +kernel
theorem dX6_isLetter_0 : decode cX6_isLetter 0 = .ok (.iload_n 0, 1) := by decide +kernel
theorem dX6_isLetter_1 : decode cX6_isLetter 1 = .ok (.bipush 97, 2) := by decide +kernel
theorem dX6_isLetter_3 : decode cX6_isLetter 3 = .ok (.if_icmp .lt 13, 3) := by decide +kernel
theorem dX6_isLetter_6 : decode cX6_isLetter 6 = .ok (.iload_n 0, 1) := by decide +kernel
theorem dX6_isLetter_7 : decode cX6_isLetter 7 = .ok (.bipush 122, 2) := by decide +kernel
theorem dX6_isLetter_9 : decode cX6_isLetter 9 = .ok (.if_icmp .gt 7, 3) := by decide +kernel
theorem dX6_isLetter_12 : decode cX6_isLetter 12 = .ok (.iconst 1, 1) := by decide +kernel
theorem dX6_isLetter_13 : decode cX6_isLetter 13 = .ok (.goto 4, 3) := by decide +kernel
theorem dX6_isLetter_16 : decode cX6_isLetter 16 = .ok (.iconst 0, 1) := by decide +kernel
theorem dX6_isLetter_17 : decode cX6_isLetter 17 = .ok (.ireturn, 1) := by decide +kernel
theorem dX6_isDigit_0 : decode cX6_isDigit 0 = .ok (.iload_n 0, 1) := by decide +kernel
theorem dX6_isDigit_1 : decode cX6_isDigit 1 = .ok (.bipush 48, 2) := by decide +kernel
theorem dX6_isDigit_3 : decode cX6_isDigit 3 = .ok (.if_icmp .lt 13, 3) := by decide +kernel
theorem dX6_isDigit_6 : decode cX6_isDigit 6 = .ok (.iload_n 0, 1) := by decide +kernel
theorem dX6_isDigit_7 : decode cX6_isDigit 7 = .ok (.bipush 57, 2) := by decide +kernel
theorem dX6_isDigit_9 : decode cX6_isDigit 9 = .ok (.if_icmp .gt 7, 3) := by decide +kernel
theorem dX6_isDigit_12 : decode cX6_isDigit 12 = .ok (.iconst 1, 1) := by decide +kernel
theorem dX6_isDigit_13 : decode cX6_isDigit 13 = .ok (.goto 4, 3) := by decide +kernel
theorem dX6_isDigit_16 : decode cX6_isDigit 16 = .ok (.iconst 0, 1) := by decide +kernel
theorem dX6_isDigit_17 : decode cX6_isDigit 17 = .ok (.ireturn, 1) := by decide +kernel
theorem dX7_init_0 : decode cX7_init 0 = .ok (.aload_n 0, 1) := by decide +kernel
theorem dX7_init_1 : decode cX7_init 1 = .ok (.invokespecial 3, 3) := by decide +kernel
theorem dX7_init_4 : decode cX7_init 4 = .ok (.aload_n 0, 1) := by decide +kernel
theorem dX7_init_5 : decode cX7_init 5 = .ok (.bipush 12, 2) := by decide +kernel
theorem dX7_init_7 : decode cX7_init 7 = .ok (.newarray .int, 2) := by decide +kernel
theorem dX7_init_9 : decode cX7_init 9 = .ok (.putfield 9, 3) := by decide +kernel
theorem dX7_init_12 : decode cX7_init 12 = .ok (.return_, 1) := by decide +kernel
theorem dX7_join_0 : decode cX7_join 0 = .ok (.aload_n 0, 1) := by decide +kernel
theorem dX7_join_1 : decode cX7_join 1 = .ok (.getfield 15, 3) := by decide +kernel
theorem dX7_join_4 : decode cX7_join 4 = .ok (.bipush 12, 2) := by decide +kernel
theorem dX7_join_6 : decode cX7_join 6 = .ok (.if_icmp .ge 23, 3) := by decide +kernel
theorem dX7_join_9 : decode cX7_join 9 = .ok (.aload_n 0, 1) := by decide +kernel
theorem dX7_join_10 : decode cX7_join 10 = .ok (.getfield 9, 3) := by decide +kernel
theorem dX7_join_13 : decode cX7_join 13 = .ok (.aload_n 0, 1) := by decide +kernel
theorem dX7_join_14 : decode cX7_join 14 = .ok (.getfield 15, 3) := by decide +kernel
theorem dX7_join_17 : decode cX7_join 17 = .ok (.iload_n 1, 1) := by decide +kernel
theorem dX7_join_18 : decode cX7_join 18 = .ok (.iastore, 1) := by decide +kernel
theorem dX7_join_19 : decode cX7_join 19 = .ok (.aload_n 0, 1) := by decide +kernel
theorem dX7_join_20 : decode cX7_join 20 = .ok (.dup, 1) := by decide +kernel
theorem dX7_join_21 : decode cX7_join 21 = .ok (.getfield 15, 3) := by decide +kernel
theorem dX7_join_24 : decode cX7_join 24 = .ok (.iconst 1, 1) := by decide +kernel
theorem dX7_join_25 : decode cX7_join 25 = .ok (.iadd, 1) := by decide +kernel
theorem dX7_join_26 : decode cX7_join 26 = .ok (.putfield 15, 3) := by decide +kernel
theorem dX7_join_29 : decode cX7_join 29 = .ok (.return_, 1) := by decide +kernel
theorem dX7_leave_0 : decode cX7_leave 0 = .ok (.iconst 0, 1) := by decide +kernel
theorem dX7_leave_1 : decode cX7_leave 1 = .ok (.istore_n 2, 1) := by decide +kernel
theorem dX7_leave_2 : decode cX7_leave 2 = .ok (.iconst 0, 1) := by decide +kernel
theorem dX7_leave_3 : decode cX7_leave 3 = .ok (.istore_n 3, 1) := by decide +kernel
theorem dX7_leave_4 : decode cX7_leave 4 = .ok (.iload_n 3, 1) := by decide +kernel
theorem dX7_leave_5 : decode cX7_leave 5 = .ok (.aload_n 0, 1) := by decide +kernel
theorem dX7_leave_6 : decode cX7_leave 6 = .ok (.getfield 15, 3) := by decide +kernel
theorem dX7_leave_9 : decode cX7_leave 9 = .ok (.if_icmp .ge 34, 3) := by decide +kernel
theorem dX7_leave_12 : decode cX7_leave 12 = .ok (.aload_n 0, 1) := by decide +kernel
theorem dX7_leave_13 : decode cX7_leave 13 = .ok (.getfield 9, 3) := by decide +kernel
theorem dX7_leave_16 : decode cX7_leave 16 = .ok (.iload_n 3, 1) := by decide +kernel
theorem dX7_leave_17 : decode cX7_leave 17 = .ok (.iaload, 1) := by decide +kernel
theorem dX7_leave_18 : decode cX7_leave 18 = .ok (.iload_n 1, 1) := by decide +kernel
theorem dX7_leave_19 : decode cX7_leave 19 = .ok (.if_icmp .eq 18, 3) := by decide +kernel
theorem dX7_leave_22 : decode cX7_leave 22 = .ok (.aload_n 0, 1) := by decide +kernel
theorem dX7_leave_23 : decode cX7_leave 23 = .ok (.getfield 9, 3) := by decide +kernel
theorem dX7_leave_26 : decode cX7_leave 26 = .ok (.iload_n 2, 1) := by decide +kernel
theorem dX7_leave_27 : decode cX7_leave 27 = .ok (.aload_n 0, 1) := by decide +kernel
theorem dX7_leave_28 : decode cX7_leave 28 = .ok (.getfield 9, 3) := by decide +kernel
theorem dX7_leave_31 : decode cX7_leave 31 = .ok (.iload_n 3, 1) := by decide +kernel
theorem dX7_leave_32 : decode cX7_leave 32 = .ok (.iaload, 1) := by decide +kernel
theorem dX7_leave_33 : decode cX7_leave 33 = .ok (.iastore, 1) := by decide +kernel
theorem dX7_leave_34 : decode cX7_leave 34 = .ok (.iinc 2 1, 3) := by decide +kernel
theorem dX7_leave_37 : decode cX7_leave 37 = .ok (.iinc 3 1, 3) := by decide +kernel
theorem dX7_leave_40 : decode cX7_leave 40 = .ok (.goto (-36), 3) := by decide +kernel
theorem dX7_leave_43 : decode cX7_leave 43 = .ok (.aload_n 0, 1) := by decide +kernel
theorem dX7_leave_44 : decode cX7_leave 44 = .ok (.iload_n 2, 1) := by decide +kernel
theorem dX7_leave_45 : decode cX7_leave 45 = .ok (.putfield 15, 3) := by decide +kernel
theorem dX7_leave_48 : decode cX7_leave 48 = .ok (.return_, 1) := by decide +kernel
theorem dX7_first_0 : decode cX7_first 0 = .ok (.aload_n 0, 1) := by decide +kernel
theorem dX7_first_1 : decode cX7_first 1 = .ok (.getfield 15, 3) := by decide +kernel
theorem dX7_first_4 : decode cX7_first 4 = .ok (.ifCond .le 12, 3) := by decide +kernel
theorem dX7_first_7 : decode cX7_first 7 = .ok (.aload_n 0, 1) := by decide +kernel
theorem dX7_first_8 : decode cX7_first 8 = .ok (.getfield 9, 3) := by decide +kernel
theorem dX7_first_11 : decode cX7_first 11 = .ok (.iconst 0, 1) := by decide +kernel
theorem dX7_first_12 : decode cX7_first 12 = .ok (.iaload, 1) := by decide +kernel
theorem dX7_first_13 : decode cX7_first 13 = .ok (.goto 4, 3) := by decide +kernel
theorem dX7_first_16 : decode cX7_first 16 = .ok (.iconst (-1), 1) := by decide +kernel
theorem dX7_first_17 : decode cX7_first 17 = .ok (.ireturn, 1) := by decide +kernel
theorem dX8_init_0 : decode cX8_init 0 = .ok (.aload_n 0, 1) := by decide +kernel
theorem dX8_init_1 : decode cX8_init 1 = .ok (.invokespecial 3, 3) := by decide +kernel
theorem dX8_init_4 : decode cX8_init 4 = .ok (.aload_n 0, 1) := by decide +kernel
theorem dX8_init_5 : decode cX8_init 5 = .ok (.sipush 8192, 3) := by decide +kernel
theorem dX8_init_8 : decode cX8_init 8 = .ok (.newarray .byte, 2) := by decide +kernel
theorem dX8_init_10 : decode cX8_init 10 = .ok (.putfield 9, 3) := by decide +kernel
theorem dX8_init_13 : decode cX8_init 13 = .ok (.return_, 1) := by decide +kernel
theorem dX8_append_0 : decode cX8_append 0 = .ok (.bipush 24, 2) := by decide +kernel
theorem dX8_append_2 : decode cX8_append 2 = .ok (.istore_n 2, 1) := by decide +kernel
theorem dX8_append_3 : decode cX8_append 3 = .ok (.iload_n 2, 1) := by decide +kernel
theorem dX8_append_4 : decode cX8_append 4 = .ok (.ifCond .lt 42, 3) := by decide +kernel
theorem dX8_append_7 : decode cX8_append 7 = .ok (.aload_n 0, 1) := by decide +kernel
theorem dX8_append_8 : decode cX8_append 8 = .ok (.getfield 15, 3) := by decide +kernel
theorem dX8_append_11 : decode cX8_append 11 = .ok (.sipush 8192, 3) := by decide +kernel
theorem dX8_append_14 : decode cX8_append 14 = .ok (.if_icmp .ge 32, 3) := by decide +kernel
theorem dX8_append_17 : decode cX8_append 17 = .ok (.aload_n 0, 1) := by decide +kernel
theorem dX8_append_18 : decode cX8_append 18 = .ok (.getfield 9, 3) := by decide +kernel
theorem dX8_append_21 : decode cX8_append 21 = .ok (.aload_n 0, 1) := by decide +kernel
theorem dX8_append_22 : decode cX8_append 22 = .ok (.getfield 15, 3) := by decide +kernel
theorem dX8_append_25 : decode cX8_append 25 = .ok (.iload_n 1, 1) := by decide +kernel
theorem dX8_append_26 : decode cX8_append 26 = .ok (.iload_n 2, 1) := by decide +kernel
theorem dX8_append_27 : decode cX8_append 27 = .ok (.ishr, 1) := by decide +kernel
theorem dX8_append_28 : decode cX8_append 28 = .ok (.i2b, 1) := by decide +kernel
theorem dX8_append_29 : decode cX8_append 29 = .ok (.bastore, 1) := by decide +kernel
theorem dX8_append_30 : decode cX8_append 30 = .ok (.aload_n 0, 1) := by decide +kernel
theorem dX8_append_31 : decode cX8_append 31 = .ok (.dup, 1) := by decide +kernel
theorem dX8_append_32 : decode cX8_append 32 = .ok (.getfield 15, 3) := by decide +kernel
theorem dX8_append_35 : decode cX8_append 35 = .ok (.iconst 1, 1) := by decide +kernel
theorem dX8_append_36 : decode cX8_append 36 = .ok (.iadd, 1) := by decide +kernel
theorem dX8_append_37 : decode cX8_append 37 = .ok (.putfield 15, 3) := by decide +kernel
theorem dX8_append_40 : decode cX8_append 40 = .ok (.iinc 2 (-8), 3) := by decide +kernel
theorem dX8_append_43 : decode cX8_append 43 = .ok (.goto (-40), 3) := by decide +kernel
theorem dX8_append_46 : decode cX8_append 46 = .ok (.return_, 1) := by decide +kernel
theorem dX8_at_0 : decode cX8_at 0 = .ok (.iload_n 1, 1) := by decide +kernel
theorem dX8_at_1 : decode cX8_at 1 = .ok (.ifCond .lt 24, 3) := by decide +kernel
theorem dX8_at_4 : decode cX8_at 4 = .ok (.iload_n 1, 1) := by decide +kernel
theorem dX8_at_5 : decode cX8_at 5 = .ok (.aload_n 0, 1) := by decide +kernel
theorem dX8_at_6 : decode cX8_at 6 = .ok (.getfield 15, 3) := by decide +kernel
theorem dX8_at_9 : decode cX8_at 9 = .ok (.if_icmp .ge 16, 3) := by decide +kernel
theorem dX8_at_12 : decode cX8_at 12 = .ok (.aload_n 0, 1) := by decide +kernel
theorem dX8_at_13 : decode cX8_at 13 = .ok (.getfield 9, 3) := by decide +kernel
theorem dX8_at_16 : decode cX8_at 16 = .ok (.iload_n 1, 1) := by decide +kernel
theorem dX8_at_17 : decode cX8_at 17 = .ok (.baload, 1) := by decide +kernel
theorem dX8_at_18 : decode cX8_at 18 = .ok (.sipush 255, 3) := by decide +kernel
theorem dX8_at_21 : decode cX8_at 21 = .ok (.iand, 1) := by decide +kernel
theorem dX8_at_22 : decode cX8_at 22 = .ok (.goto 4, 3) := by decide +kernel
theorem dX8_at_25 : decode cX8_at 25 = .ok (.iconst (-1), 1) := by decide +kernel
theorem dX8_at_26 : decode cX8_at 26 = .ok (.ireturn, 1) := by decide +kernel
theorem dX8_says_0 : decode cX8_says 0 = .ok (.iload_n 3, 1) := by decide +kernel
theorem dX8_says_1 : decode cX8_says 1 = .ok (.iload_n 2, 1) := by decide +kernel
theorem dX8_says_2 : decode cX8_says 2 = .ok (.isub, 1) := by decide +kernel
theorem dX8_says_3 : decode cX8_says 3 = .ok (.aload_n 1, 1) := by decide +kernel
theorem dX8_says_4 : decode cX8_says 4 = .ok (.invokevirtual 19, 3) := by decide +kernel
theorem dX8_says_7 : decode cX8_says 7 = .ok (.if_icmp .ne 15, 3) := by decide +kernel
theorem dX8_says_10 : decode cX8_says 10 = .ok (.iload_n 2, 1) := by decide +kernel
theorem dX8_says_11 : decode cX8_says 11 = .ok (.ifCond .lt 11, 3) := by decide +kernel
theorem dX8_says_14 : decode cX8_says 14 = .ok (.iload_n 3, 1) := by decide +kernel
theorem dX8_says_15 : decode cX8_says 15 = .ok (.aload_n 0, 1) := by decide +kernel
theorem dX8_says_16 : decode cX8_says 16 = .ok (.getfield 15, 3) := by decide +kernel
theorem dX8_says_19 : decode cX8_says 19 = .ok (.if_icmp .le 5, 3) := by decide +kernel
theorem dX8_says_22 : decode cX8_says 22 = .ok (.iconst 0, 1) := by decide +kernel
theorem dX8_says_23 : decode cX8_says 23 = .ok (.ireturn, 1) := by decide +kernel
theorem dX8_says_24 : decode cX8_says 24 = .ok (.iconst 0, 1) := by decide +kernel
theorem dX8_says_25 : decode cX8_says 25 = .ok (.istore 4, 2) := by decide +kernel
theorem dX8_says_27 : decode cX8_says 27 = .ok (.iload 4, 2) := by decide +kernel
theorem dX8_says_29 : decode cX8_says 29 = .ok (.aload_n 1, 1) := by decide +kernel
theorem dX8_says_30 : decode cX8_says 30 = .ok (.invokevirtual 19, 3) := by decide +kernel
theorem dX8_says_33 : decode cX8_says 33 = .ok (.if_icmp .ge 29, 3) := by decide +kernel
theorem dX8_says_36 : decode cX8_says 36 = .ok (.aload_n 0, 1) := by decide +kernel
theorem dX8_says_37 : decode cX8_says 37 = .ok (.getfield 9, 3) := by decide +kernel
theorem dX8_says_40 : decode cX8_says 40 = .ok (.iload_n 2, 1) := by decide +kernel
theorem dX8_says_41 : decode cX8_says 41 = .ok (.iload 4, 2) := by decide +kernel
theorem dX8_says_43 : decode cX8_says 43 = .ok (.iadd, 1) := by decide +kernel
theorem dX8_says_44 : decode cX8_says 44 = .ok (.baload, 1) := by decide +kernel
theorem dX8_says_45 : decode cX8_says 45 = .ok (.aload_n 1, 1) := by decide +kernel
theorem dX8_says_46 : decode cX8_says 46 = .ok (.iload 4, 2) := by decide +kernel
theorem dX8_says_48 : decode cX8_says 48 = .ok (.invokevirtual 24, 3) := by decide +kernel
theorem dX8_says_51 : decode cX8_says 51 = .ok (.if_icmp .eq 5, 3) := by decide +kernel
theorem dX8_says_54 : decode cX8_says 54 = .ok (.iconst 0, 1) := by decide +kernel
theorem dX8_says_55 : decode cX8_says 55 = .ok (.ireturn, 1) := by decide +kernel
theorem dX8_says_56 : decode cX8_says 56 = .ok (.iinc 4 1, 3) := by decide +kernel
theorem dX8_says_59 : decode cX8_says 59 = .ok (.goto (-32), 3) := by decide +kernel
theorem dX8_says_62 : decode cX8_says 62 = .ok (.iconst 1, 1) := by decide +kernel
theorem dX8_says_63 : decode cX8_says 63 = .ok (.ireturn, 1) := by decide +kernel
theorem dX8_repeats_0 : decode cX8_repeats 0 = .ok (.iconst 0, 1) := by decide +kernel
theorem dX8_repeats_1 : decode cX8_repeats 1 = .ok (.istore 4, 2) := by decide +kernel
theorem dX8_repeats_3 : decode cX8_repeats 3 = .ok (.iload 4, 2) := by decide +kernel
theorem dX8_repeats_5 : decode cX8_repeats 5 = .ok (.iload_n 3, 1) := by decide +kernel
theorem dX8_repeats_6 : decode cX8_repeats 6 = .ok (.if_icmp .ge 30, 3) := by decide +kernel
theorem dX8_repeats_9 : decode cX8_repeats 9 = .ok (.aload_n 0, 1) := by decide +kernel
theorem dX8_repeats_10 : decode cX8_repeats 10 = .ok (.iload_n 1, 1) := by decide +kernel
theorem dX8_repeats_11 : decode cX8_repeats 11 = .ok (.iload 4, 2) := by decide +kernel
theorem dX8_repeats_13 : decode cX8_repeats 13 = .ok (.iadd, 1) := by decide +kernel
theorem dX8_repeats_14 : decode cX8_repeats 14 = .ok (.invokevirtual 28, 3) := by decide +kernel
theorem dX8_repeats_17 : decode cX8_repeats 17 = .ok (.aload_n 0, 1) := by decide +kernel
theorem dX8_repeats_18 : decode cX8_repeats 18 = .ok (.iload_n 2, 1) := by decide +kernel
theorem dX8_repeats_19 : decode cX8_repeats 19 = .ok (.iload 4, 2) := by decide +kernel
theorem dX8_repeats_21 : decode cX8_repeats 21 = .ok (.iadd, 1) := by decide +kernel
theorem dX8_repeats_22 : decode cX8_repeats 22 = .ok (.invokevirtual 28, 3) := by decide +kernel
theorem dX8_repeats_25 : decode cX8_repeats 25 = .ok (.if_icmp .eq 5, 3) := by decide +kernel
theorem dX8_repeats_28 : decode cX8_repeats 28 = .ok (.iconst 0, 1) := by decide +kernel
theorem dX8_repeats_29 : decode cX8_repeats 29 = .ok (.ireturn, 1) := by decide +kernel
theorem dX8_repeats_30 : decode cX8_repeats 30 = .ok (.iinc 4 1, 3) := by decide +kernel
theorem dX8_repeats_33 : decode cX8_repeats 33 = .ok (.goto (-30), 3) := by decide +kernel
theorem dX8_repeats_36 : decode cX8_repeats 36 = .ok (.iconst 1, 1) := by decide +kernel
theorem dX8_repeats_37 : decode cX8_repeats 37 = .ok (.ireturn, 1) := by decide +kernel
theorem dX9_init_0 : decode cX9_init 0 = .ok (.aload_n 0, 1) := by decide +kernel
theorem dX9_init_1 : decode cX9_init 1 = .ok (.invokespecial 3, 3) := by decide +kernel
theorem dX9_init_4 : decode cX9_init 4 = .ok (.aload_n 0, 1) := by decide +kernel
theorem dX9_init_5 : decode cX9_init 5 = .ok (.bipush 40, 2) := by decide +kernel
theorem dX9_init_7 : decode cX9_init 7 = .ok (.newarray .int, 2) := by decide +kernel
theorem dX9_init_9 : decode cX9_init 9 = .ok (.putfield 9, 3) := by decide +kernel
theorem dX9_init_12 : decode cX9_init 12 = .ok (.aload_n 0, 1) := by decide +kernel
theorem dX9_init_13 : decode cX9_init 13 = .ok (.bipush 20, 2) := by decide +kernel
theorem dX9_init_15 : decode cX9_init 15 = .ok (.newarray .int, 2) := by decide +kernel
theorem dX9_init_17 : decode cX9_init 17 = .ok (.putfield 15, 3) := by decide +kernel
theorem dX9_init_20 : decode cX9_init 20 = .ok (.aload_n 0, 1) := by decide +kernel
theorem dX9_init_21 : decode cX9_init 21 = .ok (.new 18, 3) := by decide +kernel
theorem dX9_init_24 : decode cX9_init 24 = .ok (.dup, 1) := by decide +kernel
theorem dX9_init_25 : decode cX9_init 25 = .ok (.invokespecial 20, 3) := by decide +kernel
theorem dX9_init_28 : decode cX9_init 28 = .ok (.putfield 21, 3) := by decide +kernel
theorem dX9_init_31 : decode cX9_init 31 = .ok (.aload_n 0, 1) := by decide +kernel
theorem dX9_init_32 : decode cX9_init 32 = .ok (.new 18, 3) := by decide +kernel
theorem dX9_init_35 : decode cX9_init 35 = .ok (.dup, 1) := by decide +kernel
theorem dX9_init_36 : decode cX9_init 36 = .ok (.invokespecial 20, 3) := by decide +kernel
theorem dX9_init_39 : decode cX9_init 39 = .ok (.putfield 25, 3) := by decide +kernel
theorem dX9_init_42 : decode cX9_init 42 = .ok (.aload_n 0, 1) := by decide +kernel
theorem dX9_init_43 : decode cX9_init 43 = .ok (.iload_n 1, 1) := by decide +kernel
theorem dX9_init_44 : decode cX9_init 44 = .ok (.putfield 28, 3) := by decide +kernel
theorem dX9_init_47 : decode cX9_init 47 = .ok (.return_, 1) := by decide +kernel
theorem dX9_isAlive_0 : decode cX9_isAlive 0 = .ok (.aload_n 0, 1) := by decide +kernel
theorem dX9_isAlive_1 : decode cX9_isAlive 1 = .ok (.getfield 32, 3) := by decide +kernel
theorem dX9_isAlive_4 : decode cX9_isAlive 4 = .ok (.iconst 1, 1) := by decide +kernel
theorem dX9_isAlive_5 : decode cX9_isAlive 5 = .ok (.if_icmp .lt 16, 3) := by decide +kernel
theorem dX9_isAlive_8 : decode cX9_isAlive 8 = .ok (.aload_n 0, 1) := by decide +kernel
theorem dX9_isAlive_9 : decode cX9_isAlive 9 = .ok (.getfield 32, 3) := by decide +kernel
theorem dX9_isAlive_12 : decode cX9_isAlive 12 = .ok (.bipush 6, 2) := by decide +kernel
theorem dX9_isAlive_14 : decode cX9_isAlive 14 = .ok (.if_icmp .gt 7, 3) := by decide +kernel
theorem dX9_isAlive_17 : decode cX9_isAlive 17 = .ok (.iconst 1, 1) := by decide +kernel
theorem dX9_isAlive_18 : decode cX9_isAlive 18 = .ok (.goto 4, 3) := by decide +kernel
theorem dX9_isAlive_21 : decode cX9_isAlive 21 = .ok (.iconst 0, 1) := by decide +kernel
theorem dX9_isAlive_22 : decode cX9_isAlive 22 = .ok (.ireturn, 1) := by decide +kernel
theorem dX9_nextOp_0 : decode cX9_nextOp 0 = .ok (.aload_n 0, 1) := by decide +kernel
theorem dX9_nextOp_1 : decode cX9_nextOp 1 = .ok (.getfield 35, 3) := by decide +kernel
theorem dX9_nextOp_4 : decode cX9_nextOp 4 = .ok (.ifnull 34, 3) := by decide +kernel
theorem dX9_nextOp_7 : decode cX9_nextOp 7 = .ok (.aload_n 0, 1) := by decide +kernel
theorem dX9_nextOp_8 : decode cX9_nextOp 8 = .ok (.getfield 39, 3) := by decide +kernel
theorem dX9_nextOp_11 : decode cX9_nextOp 11 = .ok (.ifCond .lt 27, 3) := by decide +kernel
theorem dX9_nextOp_14 : decode cX9_nextOp 14 = .ok (.aload_n 0, 1) := by decide +kernel
theorem dX9_nextOp_15 : decode cX9_nextOp 15 = .ok (.getfield 39, 3) := by decide +kernel
theorem dX9_nextOp_18 : decode cX9_nextOp 18 = .ok (.aload_n 0, 1) := by decide +kernel
theorem dX9_nextOp_19 : decode cX9_nextOp 19 = .ok (.getfield 35, 3) := by decide +kernel
theorem dX9_nextOp_22 : decode cX9_nextOp 22 = .ok (.getfield 42, 3) := by decide +kernel
theorem dX9_nextOp_25 : decode cX9_nextOp 25 = .ok (.if_icmp .ge 13, 3) := by decide +kernel
theorem dX9_nextOp_28 : decode cX9_nextOp 28 = .ok (.aload_n 0, 1) := by decide +kernel
theorem dX9_nextOp_29 : decode cX9_nextOp 29 = .ok (.getfield 39, 3) := by decide +kernel
theorem dX9_nextOp_32 : decode cX9_nextOp 32 = .ok (.sipush 256, 3) := by decide +kernel
theorem dX9_nextOp_35 : decode cX9_nextOp 35 = .ok (.if_icmp .lt 5, 3) := by decide +kernel
theorem dX9_nextOp_38 : decode cX9_nextOp 38 = .ok (.aconst_null, 1) := by decide +kernel
theorem dX9_nextOp_39 : decode cX9_nextOp 39 = .ok (.areturn, 1) := by decide +kernel
theorem dX9_nextOp_40 : decode cX9_nextOp 40 = .ok (.aload_n 0, 1) := by decide +kernel
theorem dX9_nextOp_41 : decode cX9_nextOp 41 = .ok (.getfield 35, 3) := by decide +kernel
theorem dX9_nextOp_44 : decode cX9_nextOp 44 = .ok (.getfield 47, 3) := by decide +kernel
theorem dX9_nextOp_47 : decode cX9_nextOp 47 = .ok (.aload_n 0, 1) := by decide +kernel
theorem dX9_nextOp_48 : decode cX9_nextOp 48 = .ok (.getfield 39, 3) := by decide +kernel
theorem dX9_nextOp_51 : decode cX9_nextOp 51 = .ok (.aaload, 1) := by decide +kernel
theorem dX9_nextOp_52 : decode cX9_nextOp 52 = .ok (.areturn, 1) := by decide +kernel
theorem dX9_nextNumber_0 : decode cX9_nextNumber 0 = .ok (.aload_n 0, 1) := by decide +kernel
theorem dX9_nextNumber_1 : decode cX9_nextNumber 1 = .ok (.getfield 35, 3) := by decide +kernel
theorem dX9_nextNumber_4 : decode cX9_nextNumber 4 = .ok (.ifnull 20, 3) := by decide +kernel
theorem dX9_nextNumber_7 : decode cX9_nextNumber 7 = .ok (.aload_n 0, 1) := by decide +kernel
theorem dX9_nextNumber_8 : decode cX9_nextNumber 8 = .ok (.getfield 39, 3) := by decide +kernel
theorem dX9_nextNumber_11 : decode cX9_nextNumber 11 = .ok (.ifCond .lt 13, 3) := by decide +kernel
theorem dX9_nextNumber_14 : decode cX9_nextNumber 14 = .ok (.aload_n 0, 1) := by decide +kernel
theorem dX9_nextNumber_15 : decode cX9_nextNumber 15 = .ok (.getfield 39, 3) := by decide +kernel
theorem dX9_nextNumber_18 : decode cX9_nextNumber 18 = .ok (.sipush 256, 3) := by decide +kernel
theorem dX9_nextNumber_21 : decode cX9_nextNumber 21 = .ok (.if_icmp .lt 7, 3) := by decide +kernel
theorem dX9_nextNumber_24 : decode cX9_nextNumber 24 = .ok (.iconst 0, 1) := by decide +kernel
theorem dX9_nextNumber_25 : decode cX9_nextNumber 25 = .ok (.goto 15, 3) := by decide +kernel
theorem dX9_nextNumber_28 : decode cX9_nextNumber 28 = .ok (.aload_n 0, 1) := by decide +kernel
theorem dX9_nextNumber_29 : decode cX9_nextNumber 29 = .ok (.getfield 35, 3) := by decide +kernel
theorem dX9_nextNumber_32 : decode cX9_nextNumber 32 = .ok (.getfield 51, 3) := by decide +kernel
theorem dX9_nextNumber_35 : decode cX9_nextNumber 35 = .ok (.aload_n 0, 1) := by decide +kernel
theorem dX9_nextNumber_36 : decode cX9_nextNumber 36 = .ok (.getfield 39, 3) := by decide +kernel
theorem dX9_nextNumber_39 : decode cX9_nextNumber 39 = .ok (.iaload, 1) := by decide +kernel
theorem dX9_nextNumber_40 : decode cX9_nextNumber 40 = .ok (.ireturn, 1) := by decide +kernel
theorem dX9_push_0 : decode cX9_push 0 = .ok (.aload_n 0, 1) := by decide +kernel
theorem dX9_push_1 : decode cX9_push 1 = .ok (.getfield 52, 3) := by decide +kernel
theorem dX9_push_4 : decode cX9_push 4 = .ok (.bipush 40, 2) := by decide +kernel
theorem dX9_push_6 : decode cX9_push 6 = .ok (.if_icmp .ge 23, 3) := by decide +kernel
theorem dX9_push_9 : decode cX9_push 9 = .ok (.aload_n 0, 1) := by decide +kernel
theorem dX9_push_10 : decode cX9_push 10 = .ok (.getfield 9, 3) := by decide +kernel
theorem dX9_push_13 : decode cX9_push 13 = .ok (.aload_n 0, 1) := by decide +kernel
theorem dX9_push_14 : decode cX9_push 14 = .ok (.getfield 52, 3) := by decide +kernel
theorem dX9_push_17 : decode cX9_push 17 = .ok (.iload_n 1, 1) := by decide +kernel
theorem dX9_push_18 : decode cX9_push 18 = .ok (.iastore, 1) := by decide +kernel
theorem dX9_push_19 : decode cX9_push 19 = .ok (.aload_n 0, 1) := by decide +kernel
theorem dX9_push_20 : decode cX9_push 20 = .ok (.dup, 1) := by decide +kernel
theorem dX9_push_21 : decode cX9_push 21 = .ok (.getfield 52, 3) := by decide +kernel
theorem dX9_push_24 : decode cX9_push 24 = .ok (.iconst 1, 1) := by decide +kernel
theorem dX9_push_25 : decode cX9_push 25 = .ok (.iadd, 1) := by decide +kernel
theorem dX9_push_26 : decode cX9_push 26 = .ok (.putfield 52, 3) := by decide +kernel
theorem dX9_push_29 : decode cX9_push 29 = .ok (.return_, 1) := by decide +kernel
theorem dX9_pop_0 : decode cX9_pop 0 = .ok (.aload_n 0, 1) := by decide +kernel
theorem dX9_pop_1 : decode cX9_pop 1 = .ok (.getfield 52, 3) := by decide +kernel
theorem dX9_pop_4 : decode cX9_pop 4 = .ok (.iconst 1, 1) := by decide +kernel
theorem dX9_pop_5 : decode cX9_pop 5 = .ok (.if_icmp .ge 5, 3) := by decide +kernel
theorem dX9_pop_8 : decode cX9_pop 8 = .ok (.iconst 0, 1) := by decide +kernel
theorem dX9_pop_9 : decode cX9_pop 9 = .ok (.ireturn, 1) := by decide +kernel
theorem dX9_pop_10 : decode cX9_pop 10 = .ok (.aload_n 0, 1) := by decide +kernel
theorem dX9_pop_11 : decode cX9_pop 11 = .ok (.dup, 1) := by decide +kernel
theorem dX9_pop_12 : decode cX9_pop 12 = .ok (.getfield 52, 3) := by decide +kernel
theorem dX9_pop_15 : decode cX9_pop 15 = .ok (.iconst 1, 1) := by decide +kernel
theorem dX9_pop_16 : decode cX9_pop 16 = .ok (.isub, 1) := by decide +kernel
theorem dX9_pop_17 : decode cX9_pop 17 = .ok (.putfield 52, 3) := by decide +kernel
theorem dX9_pop_20 : decode cX9_pop 20 = .ok (.aload_n 0, 1) := by decide +kernel
theorem dX9_pop_21 : decode cX9_pop 21 = .ok (.getfield 9, 3) := by decide +kernel
theorem dX9_pop_24 : decode cX9_pop 24 = .ok (.aload_n 0, 1) := by decide +kernel
theorem dX9_pop_25 : decode cX9_pop 25 = .ok (.getfield 52, 3) := by decide +kernel
theorem dX9_pop_28 : decode cX9_pop 28 = .ok (.iaload, 1) := by decide +kernel
theorem dX9_pop_29 : decode cX9_pop 29 = .ok (.ireturn, 1) := by decide +kernel
theorem dX9_top_0 : decode cX9_top 0 = .ok (.aload_n 0, 1) := by decide +kernel
theorem dX9_top_1 : decode cX9_top 1 = .ok (.getfield 52, 3) := by decide +kernel
theorem dX9_top_4 : decode cX9_top 4 = .ok (.ifCond .le 17, 3) := by decide +kernel
theorem dX9_top_7 : decode cX9_top 7 = .ok (.aload_n 0, 1) := by decide +kernel
theorem dX9_top_8 : decode cX9_top 8 = .ok (.getfield 9, 3) := by decide +kernel
theorem dX9_top_11 : decode cX9_top 11 = .ok (.aload_n 0, 1) := by decide +kernel
theorem dX9_top_12 : decode cX9_top 12 = .ok (.getfield 52, 3) := by decide +kernel
theorem dX9_top_15 : decode cX9_top 15 = .ok (.iconst 1, 1) := by decide +kernel
theorem dX9_top_16 : decode cX9_top 16 = .ok (.isub, 1) := by decide +kernel
theorem dX9_top_17 : decode cX9_top 17 = .ok (.iaload, 1) := by decide +kernel
theorem dX9_top_18 : decode cX9_top 18 = .ok (.goto 4, 3) := by decide +kernel
theorem dX9_top_21 : decode cX9_top 21 = .ok (.iconst 0, 1) := by decide +kernel
theorem dX9_top_22 : decode cX9_top 22 = .ok (.ireturn, 1) := by decide +kernel
theorem dX9_empty_0 : decode cX9_empty 0 = .ok (.aload_n 0, 1) := by decide +kernel
theorem dX9_empty_1 : decode cX9_empty 1 = .ok (.iconst 0, 1) := by decide +kernel
theorem dX9_empty_2 : decode cX9_empty 2 = .ok (.putfield 52, 3) := by decide +kernel
theorem dX9_empty_5 : decode cX9_empty 5 = .ok (.aload_n 0, 1) := by decide +kernel
theorem dX9_empty_6 : decode cX9_empty 6 = .ok (.iconst 0, 1) := by decide +kernel
theorem dX9_empty_7 : decode cX9_empty 7 = .ok (.putfield 55, 3) := by decide +kernel
theorem dX9_empty_10 : decode cX9_empty 10 = .ok (.aload_n 0, 1) := by decide +kernel
theorem dX9_empty_11 : decode cX9_empty 11 = .ok (.getfield 21, 3) := by decide +kernel
theorem dX9_empty_14 : decode cX9_empty 14 = .ok (.iconst 0, 1) := by decide +kernel
theorem dX9_empty_15 : decode cX9_empty 15 = .ok (.putfield 58, 3) := by decide +kernel
theorem dX9_empty_18 : decode cX9_empty 18 = .ok (.aload_n 0, 1) := by decide +kernel
theorem dX9_empty_19 : decode cX9_empty 19 = .ok (.getfield 25, 3) := by decide +kernel
theorem dX9_empty_22 : decode cX9_empty 22 = .ok (.iconst 0, 1) := by decide +kernel
theorem dX9_empty_23 : decode cX9_empty 23 = .ok (.putfield 58, 3) := by decide +kernel
theorem dX9_empty_26 : decode cX9_empty 26 = .ok (.aload_n 0, 1) := by decide +kernel
theorem dX9_empty_27 : decode cX9_empty 27 = .ok (.iconst 0, 1) := by decide +kernel
theorem dX9_empty_28 : decode cX9_empty 28 = .ok (.putfield 39, 3) := by decide +kernel
theorem dX9_empty_31 : decode cX9_empty 31 = .ok (.aload_n 0, 1) := by decide +kernel
theorem dX9_empty_32 : decode cX9_empty 32 = .ok (.iconst 0, 1) := by decide +kernel
theorem dX9_empty_33 : decode cX9_empty 33 = .ok (.putfield 59, 3) := by decide +kernel
theorem dX9_empty_36 : decode cX9_empty 36 = .ok (.aload_n 0, 1) := by decide +kernel
theorem dX9_empty_37 : decode cX9_empty 37 = .ok (.iconst 0, 1) := by decide +kernel
theorem dX9_empty_38 : decode cX9_empty 38 = .ok (.putfield 62, 3) := by decide +kernel
theorem dX9_empty_41 : decode cX9_empty 41 = .ok (.return_, 1) := by decide +kernel
theorem dX9_vanish_0 : decode cX9_vanish 0 = .ok (.aload_n 0, 1) := by decide +kernel
theorem dX9_vanish_1 : decode cX9_vanish 1 = .ok (.invokevirtual 65, 3) := by decide +kernel
theorem dX9_vanish_4 : decode cX9_vanish 4 = .ok (.aload_n 0, 1) := by decide +kernel
theorem dX9_vanish_5 : decode cX9_vanish 5 = .ok (.getfield 35, 3) := by decide +kernel
theorem dX9_vanish_8 : decode cX9_vanish 8 = .ok (.ifnull 16, 3) := by decide +kernel
theorem dX9_vanish_11 : decode cX9_vanish 11 = .ok (.aload_n 0, 1) := by decide +kernel
theorem dX9_vanish_12 : decode cX9_vanish 12 = .ok (.getfield 35, 3) := by decide +kernel
theorem dX9_vanish_15 : decode cX9_vanish 15 = .ok (.dup, 1) := by decide +kernel
theorem dX9_vanish_16 : decode cX9_vanish 16 = .ok (.getfield 68, 3) := by decide +kernel
theorem dX9_vanish_19 : decode cX9_vanish 19 = .ok (.iconst 1, 1) := by decide +kernel
theorem dX9_vanish_20 : decode cX9_vanish 20 = .ok (.isub, 1) := by decide +kernel
theorem dX9_vanish_21 : decode cX9_vanish 21 = .ok (.putfield 68, 3) := by decide +kernel
theorem dX9_vanish_24 : decode cX9_vanish 24 = .ok (.aload_n 0, 1) := by decide +kernel
theorem dX9_vanish_25 : decode cX9_vanish 25 = .ok (.aconst_null, 1) := by decide +kernel
theorem dX9_vanish_26 : decode cX9_vanish 26 = .ok (.putfield 35, 3) := by decide +kernel
theorem dX9_vanish_29 : decode cX9_vanish 29 = .ok (.aload_n 0, 1) := by decide +kernel
theorem dX9_vanish_30 : decode cX9_vanish 30 = .ok (.iconst 0, 1) := by decide +kernel
theorem dX9_vanish_31 : decode cX9_vanish 31 = .ok (.putfield 32, 3) := by decide +kernel
theorem dX9_vanish_34 : decode cX9_vanish 34 = .ok (.aload_n 0, 1) := by decide +kernel
theorem dX9_vanish_35 : decode cX9_vanish 35 = .ok (.iconst 0, 1) := by decide +kernel
theorem dX9_vanish_36 : decode cX9_vanish 36 = .ok (.putfield 71, 3) := by decide +kernel
theorem dX9_vanish_39 : decode cX9_vanish 39 = .ok (.aload_n 0, 1) := by decide +kernel
theorem dX9_vanish_40 : decode cX9_vanish 40 = .ok (.iconst 0, 1) := by decide +kernel
theorem dX9_vanish_41 : decode cX9_vanish 41 = .ok (.putfield 74, 3) := by decide +kernel
theorem dX9_vanish_44 : decode cX9_vanish 44 = .ok (.aload_n 0, 1) := by decide +kernel
theorem dX9_vanish_45 : decode cX9_vanish 45 = .ok (.iconst 0, 1) := by decide +kernel
theorem dX9_vanish_46 : decode cX9_vanish 46 = .ok (.putfield 77, 3) := by decide +kernel
theorem dX9_vanish_49 : decode cX9_vanish 49 = .ok (.aload_n 0, 1) := by decide +kernel
theorem dX9_vanish_50 : decode cX9_vanish 50 = .ok (.iconst 0, 1) := by decide +kernel
theorem dX9_vanish_51 : decode cX9_vanish 51 = .ok (.putfield 80, 3) := by decide +kernel
theorem dX9_vanish_54 : decode cX9_vanish 54 = .ok (.return_, 1) := by decide +kernel
theorem dX10_init_0 : decode cX10_init 0 = .ok (.aload_n 0, 1) := by decide +kernel
theorem dX10_init_1 : decode cX10_init 1 = .ok (.invokespecial 3, 3) := by decide +kernel
theorem dX10_init_4 : decode cX10_init 4 = .ok (.aload_n 0, 1) := by decide +kernel
theorem dX10_init_5 : decode cX10_init 5 = .ok (.iconst 4, 1) := by decide +kernel
theorem dX10_init_6 : decode cX10_init 6 = .ok (.putfield 9, 3) := by decide +kernel
theorem dX10_init_9 : decode cX10_init 9 = .ok (.aload_n 0, 1) := by decide +kernel
theorem dX10_init_10 : decode cX10_init 10 = .ok (.aload_n 1, 1) := by decide +kernel
theorem dX10_init_11 : decode cX10_init 11 = .ok (.putfield 15, 3) := by decide +kernel
theorem dX10_init_14 : decode cX10_init 14 = .ok (.return_, 1) := by decide +kernel
theorem dX10_advance_0 : decode cX10_advance 0 = .ok (.aload_n 0, 1) := by decide +kernel
theorem dX10_advance_1 : decode cX10_advance 1 = .ok (.getfield 15, 3) := by decide +kernel
theorem dX10_advance_4 : decode cX10_advance 4 = .ok (.dup, 1) := by decide +kernel
theorem dX10_advance_5 : decode cX10_advance 5 = .ok (.getfield 19, 3) := by decide +kernel
theorem dX10_advance_8 : decode cX10_advance 8 = .ok (.iconst 1, 1) := by decide +kernel
theorem dX10_advance_9 : decode cX10_advance 9 = .ok (.iadd, 1) := by decide +kernel
theorem dX10_advance_10 : decode cX10_advance 10 = .ok (.putfield 19, 3) := by decide +kernel
theorem dX10_advance_13 : decode cX10_advance 13 = .ok (.aload_n 0, 1) := by decide +kernel
theorem dX10_advance_14 : decode cX10_advance 14 = .ok (.getfield 15, 3) := by decide +kernel
theorem dX10_advance_17 : decode cX10_advance 17 = .ok (.getfield 19, 3) := by decide +kernel
theorem dX10_advance_20 : decode cX10_advance 20 = .ok (.aload_n 0, 1) := by decide +kernel
theorem dX10_advance_21 : decode cX10_advance 21 = .ok (.getfield 15, 3) := by decide +kernel
theorem dX10_advance_24 : decode cX10_advance 24 = .ok (.getfield 24, 3) := by decide +kernel
theorem dX10_advance_27 : decode cX10_advance 27 = .ok (.if_icmp .lt 10, 3) := by decide +kernel
theorem dX10_advance_30 : decode cX10_advance 30 = .ok (.aload_n 0, 1) := by decide +kernel
theorem dX10_advance_31 : decode cX10_advance 31 = .ok (.getfield 15, 3) := by decide +kernel
theorem dX10_advance_34 : decode cX10_advance 34 = .ok (.invokevirtual 27, 3) := by decide +kernel
theorem dX10_advance_37 : decode cX10_advance 37 = .ok (.aload_n 0, 1) := by decide +kernel
theorem dX10_advance_38 : decode cX10_advance 38 = .ok (.getfield 15, 3) := by decide +kernel
theorem dX10_advance_41 : decode cX10_advance 41 = .ok (.invokevirtual 30, 3) := by decide +kernel
theorem dX10_advance_44 : decode cX10_advance 44 = .ok (.astore_n 1, 1) := by decide +kernel
theorem dX10_advance_45 : decode cX10_advance 45 = .ok (.aload_n 1, 1) := by decide +kernel
theorem dX10_advance_46 : decode cX10_advance 46 = .ok (.ifnonnull 5, 3) := by decide +kernel
theorem dX10_advance_49 : decode cX10_advance 49 = .ok (.iconst (-1), 1) := by decide +kernel
theorem dX10_advance_50 : decode cX10_advance 50 = .ok (.ireturn, 1) := by decide +kernel
theorem dX10_advance_51 : decode cX10_advance 51 = .ok (.aload_n 1, 1) := by decide +kernel
theorem dX10_advance_52 : decode cX10_advance 52 = .ok (.invokevirtual 34, 3) := by decide +kernel
theorem dX10_advance_55 : decode cX10_advance 55 = .ok (.astore_n 2, 1) := by decide +kernel
theorem dX10_advance_56 : decode cX10_advance 56 = .ok (.aload_n 2, 1) := by decide +kernel
theorem dX10_advance_57 : decode cX10_advance 57 = .ok (.ifnonnull 8, 3) := by decide +kernel
theorem dX10_advance_60 : decode cX10_advance 60 = .ok (.bipush (-7), 2) := by decide +kernel
theorem dX10_advance_62 : decode cX10_advance 62 = .ok (.goto 9, 3) := by decide +kernel
theorem dX10_advance_65 : decode cX10_advance 65 = .ok (.aload_n 0, 1) := by decide +kernel
theorem dX10_advance_66 : decode cX10_advance 66 = .ok (.aload_n 1, 1) := by decide +kernel
theorem dX10_advance_67 : decode cX10_advance 67 = .ok (.aload_n 2, 1) := by decide +kernel
theorem dX10_advance_68 : decode cX10_advance 68 = .ok (.invokevirtual 40, 3) := by decide +kernel
theorem dX10_advance_71 : decode cX10_advance 71 = .ok (.istore_n 3, 1) := by decide +kernel
theorem dX10_advance_72 : decode cX10_advance 72 = .ok (.aload_n 2, 1) := by decide +kernel
theorem dX10_advance_73 : decode cX10_advance 73 = .ok (.ifnull 14, 3) := by decide +kernel
theorem dX10_advance_76 : decode cX10_advance 76 = .ok (.iload_n 3, 1) := by decide +kernel
theorem dX10_advance_77 : decode cX10_advance 77 = .ok (.ifCond .ne 10, 3) := by decide +kernel
theorem dX10_advance_80 : decode cX10_advance 80 = .ok (.aload_n 0, 1) := by decide +kernel
theorem dX10_advance_81 : decode cX10_advance 81 = .ok (.aload_n 1, 1) := by decide +kernel
theorem dX10_advance_82 : decode cX10_advance 82 = .ok (.aload_n 2, 1) := by decide +kernel
theorem dX10_advance_83 : decode cX10_advance 83 = .ok (.invokevirtual 44, 3) := by decide +kernel
theorem dX10_advance_86 : decode cX10_advance 86 = .ok (.istore_n 3, 1) := by decide +kernel
theorem dX10_advance_87 : decode cX10_advance 87 = .ok (.aload_n 0, 1) := by decide +kernel
theorem dX10_advance_88 : decode cX10_advance 88 = .ok (.aload_n 1, 1) := by decide +kernel
theorem dX10_advance_89 : decode cX10_advance 89 = .ok (.iload_n 3, 1) := by decide +kernel
theorem dX10_advance_90 : decode cX10_advance 90 = .ok (.invokevirtual 47, 3) := by decide +kernel
theorem dX10_advance_93 : decode cX10_advance 93 = .ok (.aload_n 1, 1) := by decide +kernel
theorem dX10_advance_94 : decode cX10_advance 94 = .ok (.getfield 51, 3) := by decide +kernel
theorem dX10_advance_97 : decode cX10_advance 97 = .ok (.ireturn, 1) := by decide +kernel
theorem dX10_settle_0 : decode cX10_settle 0 = .ok (.iload_n 2, 1) := by decide +kernel
theorem dX10_settle_1 : decode cX10_settle 1 = .ok (.ifCond .ge 15, 3) := by decide +kernel
theorem dX10_settle_4 : decode cX10_settle 4 = .ok (.aload_n 0, 1) := by decide +kernel
theorem dX10_settle_5 : decode cX10_settle 5 = .ok (.getfield 15, 3) := by decide +kernel
theorem dX10_settle_8 : decode cX10_settle 8 = .ok (.aload_n 1, 1) := by decide +kernel
theorem dX10_settle_9 : decode cX10_settle 9 = .ok (.iload_n 2, 1) := by decide +kernel
theorem dX10_settle_10 : decode cX10_settle 10 = .ok (.invokevirtual 54, 3) := by decide +kernel
theorem dX10_settle_13 : decode cX10_settle 13 = .ok (.goto 88, 3) := by decide +kernel
theorem dX10_settle_16 : decode cX10_settle 16 = .ok (.iload_n 2, 1) := by decide +kernel
theorem dX10_settle_17 : decode cX10_settle 17 = .ok (.iconst 3, 1) := by decide +kernel
theorem dX10_settle_18 : decode cX10_settle 18 = .ok (.if_icmp .ne 18, 3) := by decide +kernel
theorem dX10_settle_21 : decode cX10_settle 21 = .ok (.aload_n 0, 1) := by decide +kernel
theorem dX10_settle_22 : decode cX10_settle 22 = .ok (.getfield 15, 3) := by decide +kernel
theorem dX10_settle_25 : decode cX10_settle 25 = .ok (.aload_n 1, 1) := by decide +kernel
theorem dX10_settle_26 : decode cX10_settle 26 = .ok (.aload_n 1, 1) := by decide +kernel
theorem dX10_settle_27 : decode cX10_settle 27 = .ok (.invokevirtual 57, 3) := by decide +kernel
theorem dX10_settle_30 : decode cX10_settle 30 = .ok (.invokevirtual 54, 3) := by decide +kernel
theorem dX10_settle_33 : decode cX10_settle 33 = .ok (.goto 68, 3) := by decide +kernel
theorem dX10_settle_36 : decode cX10_settle 36 = .ok (.iload_n 2, 1) := by decide +kernel
theorem dX10_settle_37 : decode cX10_settle 37 = .ok (.iconst 1, 1) := by decide +kernel
theorem dX10_settle_38 : decode cX10_settle 38 = .ok (.if_icmp .ne 16, 3) := by decide +kernel
theorem dX10_settle_41 : decode cX10_settle 41 = .ok (.aload_n 1, 1) := by decide +kernel
theorem dX10_settle_42 : decode cX10_settle 42 = .ok (.dup, 1) := by decide +kernel
theorem dX10_settle_43 : decode cX10_settle 43 = .ok (.getfield 61, 3) := by decide +kernel
theorem dX10_settle_46 : decode cX10_settle 46 = .ok (.iconst 1, 1) := by decide +kernel
theorem dX10_settle_47 : decode cX10_settle 47 = .ok (.iadd, 1) := by decide +kernel
theorem dX10_settle_48 : decode cX10_settle 48 = .ok (.putfield 61, 3) := by decide +kernel
theorem dX10_settle_51 : decode cX10_settle 51 = .ok (.goto 50, 3) := by decide +kernel
theorem dX10_settle_54 : decode cX10_settle 54 = .ok (.iload_n 2, 1) := by decide +kernel
theorem dX10_settle_55 : decode cX10_settle 55 = .ok (.ifCond .ne 46, 3) := by decide +kernel
theorem dX10_settle_58 : decode cX10_settle 58 = .ok (.aload_n 1, 1) := by decide +kernel
theorem dX10_settle_59 : decode cX10_settle 59 = .ok (.dup, 1) := by decide +kernel
theorem dX10_settle_60 : decode cX10_settle 60 = .ok (.getfield 61, 3) := by decide +kernel
theorem dX10_settle_63 : decode cX10_settle 63 = .ok (.iconst 1, 1) := by decide +kernel
theorem dX10_settle_64 : decode cX10_settle 64 = .ok (.iadd, 1) := by decide +kernel
theorem dX10_settle_65 : decode cX10_settle 65 = .ok (.putfield 61, 3) := by decide +kernel
theorem dX10_settle_68 : decode cX10_settle 68 = .ok (.aload_n 1, 1) := by decide +kernel
theorem dX10_settle_69 : decode cX10_settle 69 = .ok (.dup, 1) := by decide +kernel
theorem dX10_settle_70 : decode cX10_settle 70 = .ok (.getfield 64, 3) := by decide +kernel
theorem dX10_settle_73 : decode cX10_settle 73 = .ok (.iconst 1, 1) := by decide +kernel
theorem dX10_settle_74 : decode cX10_settle 74 = .ok (.iadd, 1) := by decide +kernel
theorem dX10_settle_75 : decode cX10_settle 75 = .ok (.putfield 64, 3) := by decide +kernel
theorem dX10_settle_78 : decode cX10_settle 78 = .ok (.aload_n 1, 1) := by decide +kernel
theorem dX10_settle_79 : decode cX10_settle 79 = .ok (.getfield 64, 3) := by decide +kernel
theorem dX10_settle_82 : decode cX10_settle 82 = .ok (.aload_n 0, 1) := by decide +kernel
theorem dX10_settle_83 : decode cX10_settle 83 = .ok (.getfield 9, 3) := by decide +kernel
theorem dX10_settle_86 : decode cX10_settle 86 = .ok (.if_icmp .lt 15, 3) := by decide +kernel
theorem dX10_settle_89 : decode cX10_settle 89 = .ok (.aload_n 0, 1) := by decide +kernel
theorem dX10_settle_90 : decode cX10_settle 90 = .ok (.getfield 15, 3) := by decide +kernel
theorem dX10_settle_93 : decode cX10_settle 93 = .ok (.aload_n 1, 1) := by decide +kernel
theorem dX10_settle_94 : decode cX10_settle 94 = .ok (.aload_n 1, 1) := by decide +kernel
theorem dX10_settle_95 : decode cX10_settle 95 = .ok (.getfield 67, 3) := by decide +kernel
theorem dX10_settle_98 : decode cX10_settle 98 = .ok (.invokevirtual 70, 3) := by decide +kernel
theorem dX10_settle_101 : decode cX10_settle 101 = .ok (.return_, 1) := by decide +kernel
theorem dX10_obstacleTo_0 : decode cX10_obstacleTo 0 = .ok (.aload_n 1, 1) := by decide +kernel
theorem dX10_obstacleTo_1 : decode cX10_obstacleTo 1 = .ok (.getfield 73, 3) := by decide +kernel
theorem dX10_obstacleTo_4 : decode cX10_obstacleTo 4 = .ok (.aload_n 2, 1) := by decide +kernel
theorem dX10_obstacleTo_5 : decode cX10_obstacleTo 5 = .ok (.getfield 76, 3) := by decide +kernel
theorem dX10_obstacleTo_8 : decode cX10_obstacleTo 8 = .ok (.if_icmp .ge 6, 3) := by decide +kernel
theorem dX10_obstacleTo_11 : decode cX10_obstacleTo 11 = .ok (.bipush (-2), 2) := by decide +kernel
theorem dX10_obstacleTo_13 : decode cX10_obstacleTo 13 = .ok (.ireturn, 1) := by decide +kernel
theorem dX10_obstacleTo_14 : decode cX10_obstacleTo 14 = .ok (.aload_n 0, 1) := by decide +kernel
theorem dX10_obstacleTo_15 : decode cX10_obstacleTo 15 = .ok (.aload_n 1, 1) := by decide +kernel
theorem dX10_obstacleTo_16 : decode cX10_obstacleTo 16 = .ok (.aload_n 2, 1) := by decide +kernel
theorem dX10_obstacleTo_17 : decode cX10_obstacleTo 17 = .ok (.invokevirtual 81, 3) := by decide +kernel
theorem dX10_obstacleTo_20 : decode cX10_obstacleTo 20 = .ok (.ifCond .eq 5, 3) := by decide +kernel
theorem dX10_obstacleTo_23 : decode cX10_obstacleTo 23 = .ok (.iconst 2, 1) := by decide +kernel
theorem dX10_obstacleTo_24 : decode cX10_obstacleTo 24 = .ok (.ireturn, 1) := by decide +kernel
theorem dX10_obstacleTo_25 : decode cX10_obstacleTo 25 = .ok (.aload_n 1, 1) := by decide +kernel
theorem dX10_obstacleTo_26 : decode cX10_obstacleTo 26 = .ok (.getfield 73, 3) := by decide +kernel
theorem dX10_obstacleTo_29 : decode cX10_obstacleTo 29 = .ok (.aload_n 2, 1) := by decide +kernel
theorem dX10_obstacleTo_30 : decode cX10_obstacleTo 30 = .ok (.getfield 85, 3) := by decide +kernel
theorem dX10_obstacleTo_33 : decode cX10_obstacleTo 33 = .ok (.iadd, 1) := by decide +kernel
theorem dX10_obstacleTo_34 : decode cX10_obstacleTo 34 = .ok (.bipush 40, 2) := by decide +kernel
theorem dX10_obstacleTo_36 : decode cX10_obstacleTo 36 = .ok (.if_icmp .le 8, 3) := by decide +kernel
theorem dX10_obstacleTo_39 : decode cX10_obstacleTo 39 = .ok (.bipush (-3), 2) := by decide +kernel
theorem dX10_obstacleTo_41 : decode cX10_obstacleTo 41 = .ok (.goto 4, 3) := by decide +kernel
theorem dX10_obstacleTo_44 : decode cX10_obstacleTo 44 = .ok (.iconst 0, 1) := by decide +kernel
theorem dX10_obstacleTo_45 : decode cX10_obstacleTo 45 = .ok (.ireturn, 1) := by decide +kernel
theorem dX10_mustWait_0 : decode cX10_mustWait 0 = .ok (.aload_n 2, 1) := by decide +kernel
theorem dX10_mustWait_1 : decode cX10_mustWait 1 = .ok (.getstatic 88, 3) := by decide +kernel
theorem dX10_mustWait_4 : decode cX10_mustWait 4 = .ok (.if_acmp .ne 25, 3) := by decide +kernel
theorem dX10_mustWait_7 : decode cX10_mustWait 7 = .ok (.aload_n 1, 1) := by decide +kernel
theorem dX10_mustWait_8 : decode cX10_mustWait 8 = .ok (.getfield 92, 3) := by decide +kernel
theorem dX10_mustWait_11 : decode cX10_mustWait 11 = .ok (.getfield 96, 3) := by decide +kernel
theorem dX10_mustWait_14 : decode cX10_mustWait 14 = .ok (.ifCond .ne 15, 3) := by decide +kernel
theorem dX10_mustWait_17 : decode cX10_mustWait 17 = .ok (.aload_n 0, 1) := by decide +kernel
theorem dX10_mustWait_18 : decode cX10_mustWait 18 = .ok (.getfield 15, 3) := by decide +kernel
theorem dX10_mustWait_21 : decode cX10_mustWait 21 = .ok (.aload_n 1, 1) := by decide +kernel
theorem dX10_mustWait_22 : decode cX10_mustWait 22 = .ok (.iconst 2, 1) := by decide +kernel
theorem dX10_mustWait_23 : decode cX10_mustWait 23 = .ok (.iconst 0, 1) := by decide +kernel
theorem dX10_mustWait_24 : decode cX10_mustWait 24 = .ok (.invokevirtual 101, 3) := by decide +kernel
theorem dX10_mustWait_27 : decode cX10_mustWait 27 = .ok (.iconst 1, 1) := by decide +kernel
theorem dX10_mustWait_28 : decode cX10_mustWait 28 = .ok (.ireturn, 1) := by decide +kernel
theorem dX10_mustWait_29 : decode cX10_mustWait 29 = .ok (.aload_n 2, 1) := by decide +kernel
theorem dX10_mustWait_30 : decode cX10_mustWait 30 = .ok (.getstatic 105, 3) := by decide +kernel
theorem dX10_mustWait_33 : decode cX10_mustWait 33 = .ok (.if_acmp .ne 25, 3) := by decide +kernel
theorem dX10_mustWait_36 : decode cX10_mustWait 36 = .ok (.aload_n 1, 1) := by decide +kernel
theorem dX10_mustWait_37 : decode cX10_mustWait 37 = .ok (.getfield 108, 3) := by decide +kernel
theorem dX10_mustWait_40 : decode cX10_mustWait 40 = .ok (.getfield 96, 3) := by decide +kernel
theorem dX10_mustWait_43 : decode cX10_mustWait 43 = .ok (.ifCond .ne 15, 3) := by decide +kernel
theorem dX10_mustWait_46 : decode cX10_mustWait 46 = .ok (.aload_n 0, 1) := by decide +kernel
theorem dX10_mustWait_47 : decode cX10_mustWait 47 = .ok (.getfield 15, 3) := by decide +kernel
theorem dX10_mustWait_50 : decode cX10_mustWait 50 = .ok (.aload_n 1, 1) := by decide +kernel
theorem dX10_mustWait_51 : decode cX10_mustWait 51 = .ok (.iconst 4, 1) := by decide +kernel
theorem dX10_mustWait_52 : decode cX10_mustWait 52 = .ok (.iconst 0, 1) := by decide +kernel
theorem dX10_mustWait_53 : decode cX10_mustWait 53 = .ok (.invokevirtual 101, 3) := by decide +kernel
theorem dX10_mustWait_56 : decode cX10_mustWait 56 = .ok (.iconst 1, 1) := by decide +kernel
theorem dX10_mustWait_57 : decode cX10_mustWait 57 = .ok (.ireturn, 1) := by decide +kernel
theorem dX10_mustWait_58 : decode cX10_mustWait 58 = .ok (.aload_n 2, 1) := by decide +kernel
theorem dX10_mustWait_59 : decode cX10_mustWait 59 = .ok (.getstatic 111, 3) := by decide +kernel
theorem dX10_mustWait_62 : decode cX10_mustWait 62 = .ok (.if_acmp .ne 42, 3) := by decide +kernel
theorem dX10_mustWait_65 : decode cX10_mustWait 65 = .ok (.aload_n 0, 1) := by decide +kernel
theorem dX10_mustWait_66 : decode cX10_mustWait 66 = .ok (.getfield 15, 3) := by decide +kernel
theorem dX10_mustWait_69 : decode cX10_mustWait 69 = .ok (.aload_n 1, 1) := by decide +kernel
theorem dX10_mustWait_70 : decode cX10_mustWait 70 = .ok (.aload_n 1, 1) := by decide +kernel
theorem dX10_mustWait_71 : decode cX10_mustWait 71 = .ok (.invokevirtual 114, 3) := by decide +kernel
theorem dX10_mustWait_74 : decode cX10_mustWait 74 = .ok (.invokevirtual 117, 3) := by decide +kernel
theorem dX10_mustWait_77 : decode cX10_mustWait 77 = .ok (.astore_n 3, 1) := by decide +kernel
theorem dX10_mustWait_78 : decode cX10_mustWait 78 = .ok (.aload_n 3, 1) := by decide +kernel
theorem dX10_mustWait_79 : decode cX10_mustWait 79 = .ok (.ifnull 25, 3) := by decide +kernel
theorem dX10_mustWait_82 : decode cX10_mustWait 82 = .ok (.aload_n 3, 1) := by decide +kernel
theorem dX10_mustWait_83 : decode cX10_mustWait 83 = .ok (.invokevirtual 121, 3) := by decide +kernel
theorem dX10_mustWait_86 : decode cX10_mustWait 86 = .ok (.ifCond .eq 18, 3) := by decide +kernel
theorem dX10_mustWait_89 : decode cX10_mustWait 89 = .ok (.aload_n 0, 1) := by decide +kernel
theorem dX10_mustWait_90 : decode cX10_mustWait 90 = .ok (.getfield 15, 3) := by decide +kernel
theorem dX10_mustWait_93 : decode cX10_mustWait 93 = .ok (.aload_n 1, 1) := by decide +kernel
theorem dX10_mustWait_94 : decode cX10_mustWait 94 = .ok (.iconst 3, 1) := by decide +kernel
theorem dX10_mustWait_95 : decode cX10_mustWait 95 = .ok (.aload_n 3, 1) := by decide +kernel
theorem dX10_mustWait_96 : decode cX10_mustWait 96 = .ok (.getfield 51, 3) := by decide +kernel
theorem dX10_mustWait_99 : decode cX10_mustWait 99 = .ok (.invokevirtual 101, 3) := by decide +kernel
theorem dX10_mustWait_102 : decode cX10_mustWait 102 = .ok (.iconst 1, 1) := by decide +kernel
theorem dX10_mustWait_103 : decode cX10_mustWait 103 = .ok (.ireturn, 1) := by decide +kernel
theorem dX10_mustWait_104 : decode cX10_mustWait 104 = .ok (.iconst 0, 1) := by decide +kernel
theorem dX10_mustWait_105 : decode cX10_mustWait 105 = .ok (.ireturn, 1) := by decide +kernel
theorem dX10_perform_0 : decode cX10_perform 0 = .ok (.aload_n 1, 1) := by decide +kernel
theorem dX10_perform_1 : decode cX10_perform 1 = .ok (.invokevirtual 125, 3) := by decide +kernel
theorem dX10_perform_4 : decode cX10_perform 4 = .ok (.istore_n 3, 1) := by decide +kernel
theorem dX10_perform_5 : decode cX10_perform 5 = .ok (.aload_n 1, 1) := by decide +kernel
theorem dX10_perform_6 : decode cX10_perform 6 = .ok (.dup, 1) := by decide +kernel
theorem dX10_perform_7 : decode cX10_perform 7 = .ok (.getfield 128, 3) := by decide +kernel
theorem dX10_perform_10 : decode cX10_perform 10 = .ok (.iconst 1, 1) := by decide +kernel
theorem dX10_perform_11 : decode cX10_perform 11 = .ok (.iadd, 1) := by decide +kernel
theorem dX10_perform_12 : decode cX10_perform 12 = .ok (.putfield 128, 3) := by decide +kernel
theorem dX10_perform_15 : decode cX10_perform 15 = .ok (.aload_n 2, 1) := by decide +kernel
theorem dX10_perform_16 : decode cX10_perform 16 = .ok (.getfield 131, 3) := by decide +kernel
theorem dX10_perform_19 : decode cX10_perform 19 = .ok (.tableswitch 82 0 5 #[37, 45, 52, 60, 67, 74], 37) := by decide +kernel
theorem dX10_perform_56 : decode cX10_perform 56 = .ok (.aload_n 0, 1) := by decide +kernel
theorem dX10_perform_57 : decode cX10_perform 57 = .ok (.aload_n 1, 1) := by decide +kernel
theorem dX10_perform_58 : decode cX10_perform 58 = .ok (.aload_n 2, 1) := by decide +kernel
theorem dX10_perform_59 : decode cX10_perform 59 = .ok (.iload_n 3, 1) := by decide +kernel
theorem dX10_perform_60 : decode cX10_perform 60 = .ok (.invokevirtual 134, 3) := by decide +kernel
theorem dX10_perform_63 : decode cX10_perform 63 = .ok (.ireturn, 1) := by decide +kernel
theorem dX10_perform_64 : decode cX10_perform 64 = .ok (.aload_n 0, 1) := by decide +kernel
theorem dX10_perform_65 : decode cX10_perform 65 = .ok (.aload_n 1, 1) := by decide +kernel
theorem dX10_perform_66 : decode cX10_perform 66 = .ok (.aload_n 2, 1) := by decide +kernel
theorem dX10_perform_67 : decode cX10_perform 67 = .ok (.invokevirtual 138, 3) := by decide +kernel
theorem dX10_perform_70 : decode cX10_perform 70 = .ok (.ireturn, 1) := by decide +kernel
theorem dX10_perform_71 : decode cX10_perform 71 = .ok (.aload_n 0, 1) := by decide +kernel
theorem dX10_perform_72 : decode cX10_perform 72 = .ok (.aload_n 1, 1) := by decide +kernel
theorem dX10_perform_73 : decode cX10_perform 73 = .ok (.aload_n 2, 1) := by decide +kernel
theorem dX10_perform_74 : decode cX10_perform 74 = .ok (.iload_n 3, 1) := by decide +kernel
theorem dX10_perform_75 : decode cX10_perform 75 = .ok (.invokevirtual 141, 3) := by decide +kernel
theorem dX10_perform_78 : decode cX10_perform 78 = .ok (.ireturn, 1) := by decide +kernel
theorem dX10_perform_79 : decode cX10_perform 79 = .ok (.aload_n 0, 1) := by decide +kernel
theorem dX10_perform_80 : decode cX10_perform 80 = .ok (.aload_n 1, 1) := by decide +kernel
theorem dX10_perform_81 : decode cX10_perform 81 = .ok (.aload_n 2, 1) := by decide +kernel
theorem dX10_perform_82 : decode cX10_perform 82 = .ok (.invokevirtual 144, 3) := by decide +kernel
theorem dX10_perform_85 : decode cX10_perform 85 = .ok (.ireturn, 1) := by decide +kernel
theorem dX10_perform_86 : decode cX10_perform 86 = .ok (.aload_n 0, 1) := by decide +kernel
theorem dX10_perform_87 : decode cX10_perform 87 = .ok (.aload_n 1, 1) := by decide +kernel
theorem dX10_perform_88 : decode cX10_perform 88 = .ok (.aload_n 2, 1) := by decide +kernel
theorem dX10_perform_89 : decode cX10_perform 89 = .ok (.invokevirtual 147, 3) := by decide +kernel
theorem dX10_perform_92 : decode cX10_perform 92 = .ok (.ireturn, 1) := by decide +kernel
theorem dX10_perform_93 : decode cX10_perform 93 = .ok (.aload_n 0, 1) := by decide +kernel
theorem dX10_perform_94 : decode cX10_perform 94 = .ok (.aload_n 1, 1) := by decide +kernel
theorem dX10_perform_95 : decode cX10_perform 95 = .ok (.aload_n 2, 1) := by decide +kernel
theorem dX10_perform_96 : decode cX10_perform 96 = .ok (.iload_n 3, 1) := by decide +kernel
theorem dX10_perform_97 : decode cX10_perform 97 = .ok (.invokevirtual 150, 3) := by decide +kernel
theorem dX10_perform_100 : decode cX10_perform 100 = .ok (.ireturn, 1) := by decide +kernel
theorem dX10_perform_101 : decode cX10_perform 101 = .ok (.aload_n 0, 1) := by decide +kernel
theorem dX10_perform_102 : decode cX10_perform 102 = .ok (.aload_n 1, 1) := by decide +kernel
theorem dX10_perform_103 : decode cX10_perform 103 = .ok (.aload_n 2, 1) := by decide +kernel
theorem dX10_perform_104 : decode cX10_perform 104 = .ok (.invokevirtual 153, 3) := by decide +kernel
theorem dX10_perform_107 : decode cX10_perform 107 = .ok (.ireturn, 1) := by decide +kernel
theorem dX10_shuffle_0 : decode cX10_shuffle 0 = .ok (.aload_n 2, 1) := by decide +kernel
theorem dX10_shuffle_1 : decode cX10_shuffle 1 = .ok (.getstatic 156, 3) := by decide +kernel
theorem dX10_shuffle_4 : decode cX10_shuffle 4 = .ok (.if_acmp .ne 10, 3) := by decide +kernel
theorem dX10_shuffle_7 : decode cX10_shuffle 7 = .ok (.aload_n 1, 1) := by decide +kernel
theorem dX10_shuffle_8 : decode cX10_shuffle 8 = .ok (.iload_n 3, 1) := by decide +kernel
theorem dX10_shuffle_9 : decode cX10_shuffle 9 = .ok (.invokevirtual 159, 3) := by decide +kernel
theorem dX10_shuffle_12 : decode cX10_shuffle 12 = .ok (.iconst 0, 1) := by decide +kernel
theorem dX10_shuffle_13 : decode cX10_shuffle 13 = .ok (.ireturn, 1) := by decide +kernel
theorem dX10_shuffle_14 : decode cX10_shuffle 14 = .ok (.aload_n 1, 1) := by decide +kernel
theorem dX10_shuffle_15 : decode cX10_shuffle 15 = .ok (.invokevirtual 57, 3) := by decide +kernel
theorem dX10_shuffle_18 : decode cX10_shuffle 18 = .ok (.istore 4, 2) := by decide +kernel
theorem dX10_shuffle_20 : decode cX10_shuffle 20 = .ok (.aload_n 2, 1) := by decide +kernel
theorem dX10_shuffle_21 : decode cX10_shuffle 21 = .ok (.getstatic 163, 3) := by decide +kernel
theorem dX10_shuffle_24 : decode cX10_shuffle 24 = .ok (.if_acmp .ne 14, 3) := by decide +kernel
theorem dX10_shuffle_27 : decode cX10_shuffle 27 = .ok (.aload_n 1, 1) := by decide +kernel
theorem dX10_shuffle_28 : decode cX10_shuffle 28 = .ok (.iload 4, 2) := by decide +kernel
theorem dX10_shuffle_30 : decode cX10_shuffle 30 = .ok (.iconst (-1), 1) := by decide +kernel
theorem dX10_shuffle_31 : decode cX10_shuffle 31 = .ok (.ixor, 1) := by decide +kernel
theorem dX10_shuffle_32 : decode cX10_shuffle 32 = .ok (.invokevirtual 159, 3) := by decide +kernel
theorem dX10_shuffle_35 : decode cX10_shuffle 35 = .ok (.goto 40, 3) := by decide +kernel
theorem dX10_shuffle_38 : decode cX10_shuffle 38 = .ok (.aload_n 2, 1) := by decide +kernel
theorem dX10_shuffle_39 : decode cX10_shuffle 39 = .ok (.getstatic 166, 3) := by decide +kernel
theorem dX10_shuffle_42 : decode cX10_shuffle 42 = .ok (.if_acmp .ne 18, 3) := by decide +kernel
theorem dX10_shuffle_45 : decode cX10_shuffle 45 = .ok (.aload_n 1, 1) := by decide +kernel
theorem dX10_shuffle_46 : decode cX10_shuffle 46 = .ok (.iload 4, 2) := by decide +kernel
theorem dX10_shuffle_48 : decode cX10_shuffle 48 = .ok (.invokevirtual 159, 3) := by decide +kernel
theorem dX10_shuffle_51 : decode cX10_shuffle 51 = .ok (.aload_n 1, 1) := by decide +kernel
theorem dX10_shuffle_52 : decode cX10_shuffle 52 = .ok (.iload 4, 2) := by decide +kernel
theorem dX10_shuffle_54 : decode cX10_shuffle 54 = .ok (.invokevirtual 159, 3) := by decide +kernel
theorem dX10_shuffle_57 : decode cX10_shuffle 57 = .ok (.goto 18, 3) := by decide +kernel
theorem dX10_shuffle_60 : decode cX10_shuffle 60 = .ok (.aload_n 2, 1) := by decide +kernel
theorem dX10_shuffle_61 : decode cX10_shuffle 61 = .ok (.getstatic 169, 3) := by decide +kernel
theorem dX10_shuffle_64 : decode cX10_shuffle 64 = .ok (.if_acmp .eq 11, 3) := by decide +kernel
theorem dX10_shuffle_67 : decode cX10_shuffle 67 = .ok (.aload_n 0, 1) := by decide +kernel
theorem dX10_shuffle_68 : decode cX10_shuffle 68 = .ok (.aload_n 1, 1) := by decide +kernel
theorem dX10_shuffle_69 : decode cX10_shuffle 69 = .ok (.aload_n 2, 1) := by decide +kernel
theorem dX10_shuffle_70 : decode cX10_shuffle 70 = .ok (.iload 4, 2) := by decide +kernel
theorem dX10_shuffle_72 : decode cX10_shuffle 72 = .ok (.invokevirtual 172, 3) := by decide +kernel
theorem dX10_shuffle_75 : decode cX10_shuffle 75 = .ok (.iconst 0, 1) := by decide +kernel
theorem dX10_shuffle_76 : decode cX10_shuffle 76 = .ok (.ireturn, 1) := by decide +kernel
theorem dX10_shuffleSeveral_0 : decode cX10_shuffleSeveral 0 = .ok (.aload_n 1, 1) := by decide +kernel
theorem dX10_shuffleSeveral_1 : decode cX10_shuffleSeveral 1 = .ok (.invokevirtual 57, 3) := by decide +kernel
theorem dX10_shuffleSeveral_4 : decode cX10_shuffleSeveral 4 = .ok (.istore 4, 2) := by decide +kernel
theorem dX10_shuffleSeveral_6 : decode cX10_shuffleSeveral 6 = .ok (.aload_n 2, 1) := by decide +kernel
theorem dX10_shuffleSeveral_7 : decode cX10_shuffleSeveral 7 = .ok (.getstatic 176, 3) := by decide +kernel
theorem dX10_shuffleSeveral_10 : decode cX10_shuffleSeveral 10 = .ok (.if_acmp .ne 17, 3) := by decide +kernel
theorem dX10_shuffleSeveral_13 : decode cX10_shuffleSeveral 13 = .ok (.aload_n 1, 1) := by decide +kernel
theorem dX10_shuffleSeveral_14 : decode cX10_shuffleSeveral 14 = .ok (.iload_n 3, 1) := by decide +kernel
theorem dX10_shuffleSeveral_15 : decode cX10_shuffleSeveral 15 = .ok (.invokevirtual 159, 3) := by decide +kernel
theorem dX10_shuffleSeveral_18 : decode cX10_shuffleSeveral 18 = .ok (.aload_n 1, 1) := by decide +kernel
theorem dX10_shuffleSeveral_19 : decode cX10_shuffleSeveral 19 = .ok (.iload 4, 2) := by decide +kernel
theorem dX10_shuffleSeveral_21 : decode cX10_shuffleSeveral 21 = .ok (.invokevirtual 159, 3) := by decide +kernel
theorem dX10_shuffleSeveral_24 : decode cX10_shuffleSeveral 24 = .ok (.goto 53, 3) := by decide +kernel
theorem dX10_shuffleSeveral_27 : decode cX10_shuffleSeveral 27 = .ok (.aload_n 2, 1) := by decide +kernel
theorem dX10_shuffleSeveral_28 : decode cX10_shuffleSeveral 28 = .ok (.getstatic 179, 3) := by decide +kernel
theorem dX10_shuffleSeveral_31 : decode cX10_shuffleSeveral 31 = .ok (.if_acmp .ne 23, 3) := by decide +kernel
theorem dX10_shuffleSeveral_34 : decode cX10_shuffleSeveral 34 = .ok (.aload_n 1, 1) := by decide +kernel
theorem dX10_shuffleSeveral_35 : decode cX10_shuffleSeveral 35 = .ok (.iload 4, 2) := by decide +kernel
theorem dX10_shuffleSeveral_37 : decode cX10_shuffleSeveral 37 = .ok (.invokevirtual 159, 3) := by decide +kernel
theorem dX10_shuffleSeveral_40 : decode cX10_shuffleSeveral 40 = .ok (.aload_n 1, 1) := by decide +kernel
theorem dX10_shuffleSeveral_41 : decode cX10_shuffleSeveral 41 = .ok (.iload_n 3, 1) := by decide +kernel
theorem dX10_shuffleSeveral_42 : decode cX10_shuffleSeveral 42 = .ok (.invokevirtual 159, 3) := by decide +kernel
theorem dX10_shuffleSeveral_45 : decode cX10_shuffleSeveral 45 = .ok (.aload_n 1, 1) := by decide +kernel
theorem dX10_shuffleSeveral_46 : decode cX10_shuffleSeveral 46 = .ok (.iload 4, 2) := by decide +kernel
theorem dX10_shuffleSeveral_48 : decode cX10_shuffleSeveral 48 = .ok (.invokevirtual 159, 3) := by decide +kernel
theorem dX10_shuffleSeveral_51 : decode cX10_shuffleSeveral 51 = .ok (.goto 26, 3) := by decide +kernel
theorem dX10_shuffleSeveral_54 : decode cX10_shuffleSeveral 54 = .ok (.aload_n 1, 1) := by decide +kernel
theorem dX10_shuffleSeveral_55 : decode cX10_shuffleSeveral 55 = .ok (.invokevirtual 57, 3) := by decide +kernel
theorem dX10_shuffleSeveral_58 : decode cX10_shuffleSeveral 58 = .ok (.istore 5, 2) := by decide +kernel
theorem dX10_shuffleSeveral_60 : decode cX10_shuffleSeveral 60 = .ok (.aload_n 1, 1) := by decide +kernel
theorem dX10_shuffleSeveral_61 : decode cX10_shuffleSeveral 61 = .ok (.iload 4, 2) := by decide +kernel
theorem dX10_shuffleSeveral_63 : decode cX10_shuffleSeveral 63 = .ok (.invokevirtual 159, 3) := by decide +kernel
theorem dX10_shuffleSeveral_66 : decode cX10_shuffleSeveral 66 = .ok (.aload_n 1, 1) := by decide +kernel
theorem dX10_shuffleSeveral_67 : decode cX10_shuffleSeveral 67 = .ok (.iload_n 3, 1) := by decide +kernel
theorem dX10_shuffleSeveral_68 : decode cX10_shuffleSeveral 68 = .ok (.invokevirtual 159, 3) := by decide +kernel
theorem dX10_shuffleSeveral_71 : decode cX10_shuffleSeveral 71 = .ok (.aload_n 1, 1) := by decide +kernel
theorem dX10_shuffleSeveral_72 : decode cX10_shuffleSeveral 72 = .ok (.iload 5, 2) := by decide +kernel
theorem dX10_shuffleSeveral_74 : decode cX10_shuffleSeveral 74 = .ok (.invokevirtual 159, 3) := by decide +kernel
theorem dX10_shuffleSeveral_77 : decode cX10_shuffleSeveral 77 = .ok (.return_, 1) := by decide +kernel
theorem dX10_compute_0 : decode cX10_compute 0 = .ok (.aload_n 1, 1) := by decide +kernel
theorem dX10_compute_1 : decode cX10_compute 1 = .ok (.invokevirtual 57, 3) := by decide +kernel
theorem dX10_compute_4 : decode cX10_compute 4 = .ok (.istore_n 3, 1) := by decide +kernel
theorem dX10_compute_5 : decode cX10_compute 5 = .ok (.aload_n 1, 1) := by decide +kernel
theorem dX10_compute_6 : decode cX10_compute 6 = .ok (.invokevirtual 57, 3) := by decide +kernel
theorem dX10_compute_9 : decode cX10_compute 9 = .ok (.istore 4, 2) := by decide +kernel
theorem dX10_compute_11 : decode cX10_compute 11 = .ok (.iload_n 3, 1) := by decide +kernel
theorem dX10_compute_12 : decode cX10_compute 12 = .ok (.ifCond .ne 20, 3) := by decide +kernel
theorem dX10_compute_15 : decode cX10_compute 15 = .ok (.aload_n 2, 1) := by decide +kernel
theorem dX10_compute_16 : decode cX10_compute 16 = .ok (.getstatic 182, 3) := by decide +kernel
theorem dX10_compute_19 : decode cX10_compute 19 = .ok (.if_acmp .eq 10, 3) := by decide +kernel
theorem dX10_compute_22 : decode cX10_compute 22 = .ok (.aload_n 2, 1) := by decide +kernel
theorem dX10_compute_23 : decode cX10_compute 23 = .ok (.getstatic 185, 3) := by decide +kernel
theorem dX10_compute_26 : decode cX10_compute 26 = .ok (.if_acmp .ne 6, 3) := by decide +kernel
theorem dX10_compute_29 : decode cX10_compute 29 = .ok (.bipush (-4), 2) := by decide +kernel
theorem dX10_compute_31 : decode cX10_compute 31 = .ok (.ireturn, 1) := by decide +kernel
theorem dX10_compute_32 : decode cX10_compute 32 = .ok (.aload_n 1, 1) := by decide +kernel
theorem dX10_compute_33 : decode cX10_compute 33 = .ok (.aload_n 2, 1) := by decide +kernel
theorem dX10_compute_34 : decode cX10_compute 34 = .ok (.iload 4, 2) := by decide +kernel
theorem dX10_compute_36 : decode cX10_compute 36 = .ok (.iload_n 3, 1) := by decide +kernel
theorem dX10_compute_37 : decode cX10_compute 37 = .ok (.invokestatic 188, 3) := by decide +kernel
theorem dX10_compute_40 : decode cX10_compute 40 = .ok (.invokevirtual 159, 3) := by decide +kernel
theorem dX10_compute_43 : decode cX10_compute 43 = .ok (.iconst 0, 1) := by decide +kernel
theorem dX10_compute_44 : decode cX10_compute 44 = .ok (.ireturn, 1) := by decide +kernel
theorem dX10_resultOf_0 : decode cX10_resultOf 0 = .ok (.getstatic 192, 3) := by decide +kernel
theorem dX10_resultOf_3 : decode cX10_resultOf 3 = .ok (.aload_n 0, 1) := by decide +kernel
theorem dX10_resultOf_4 : decode cX10_resultOf 4 = .ok (.invokevirtual 198, 3) := by decide +kernel
theorem dX10_resultOf_7 : decode cX10_resultOf 7 = .ok (.iaload, 1) := by decide +kernel
theorem dX10_resultOf_8 : decode cX10_resultOf 8 = .ok (.tableswitch 148 1 12 #[64, 68, 72, 76, 88, 100, 104, 108, 112, 119, 126, 137], 64) := by decide +kernel
theorem dX10_resultOf_72 : decode cX10_resultOf 72 = .ok (.iload_n 1, 1) := by decide +kernel
theorem dX10_resultOf_73 : decode cX10_resultOf 73 = .ok (.iload_n 2, 1) := by decide +kernel
theorem dX10_resultOf_74 : decode cX10_resultOf 74 = .ok (.iadd, 1) := by decide +kernel
theorem dX10_resultOf_75 : decode cX10_resultOf 75 = .ok (.ireturn, 1) := by decide +kernel
theorem dX10_resultOf_76 : decode cX10_resultOf 76 = .ok (.iload_n 1, 1) := by decide +kernel
theorem dX10_resultOf_77 : decode cX10_resultOf 77 = .ok (.iload_n 2, 1) := by decide +kernel
theorem dX10_resultOf_78 : decode cX10_resultOf 78 = .ok (.isub, 1) := by decide +kernel
theorem dX10_resultOf_79 : decode cX10_resultOf 79 = .ok (.ireturn, 1) := by decide +kernel
theorem dX10_resultOf_80 : decode cX10_resultOf 80 = .ok (.iload_n 1, 1) := by decide +kernel
theorem dX10_resultOf_81 : decode cX10_resultOf 81 = .ok (.iload_n 2, 1) := by decide +kernel
theorem dX10_resultOf_82 : decode cX10_resultOf 82 = .ok (.imul, 1) := by decide +kernel
theorem dX10_resultOf_83 : decode cX10_resultOf 83 = .ok (.ireturn, 1) := by decide +kernel
theorem dX10_resultOf_84 : decode cX10_resultOf 84 = .ok (.iload_n 2, 1) := by decide +kernel
theorem dX10_resultOf_85 : decode cX10_resultOf 85 = .ok (.ifCond .ne 7, 3) := by decide +kernel
theorem dX10_resultOf_88 : decode cX10_resultOf 88 = .ok (.iconst 0, 1) := by decide +kernel
theorem dX10_resultOf_89 : decode cX10_resultOf 89 = .ok (.goto 6, 3) := by decide +kernel
theorem dX10_resultOf_92 : decode cX10_resultOf 92 = .ok (.iload_n 1, 1) := by decide +kernel
theorem dX10_resultOf_93 : decode cX10_resultOf 93 = .ok (.iload_n 2, 1) := by decide +kernel
theorem dX10_resultOf_94 : decode cX10_resultOf 94 = .ok (.idiv, 1) := by decide +kernel
theorem dX10_resultOf_95 : decode cX10_resultOf 95 = .ok (.ireturn, 1) := by decide +kernel
theorem dX10_resultOf_96 : decode cX10_resultOf 96 = .ok (.iload_n 2, 1) := by decide +kernel
theorem dX10_resultOf_97 : decode cX10_resultOf 97 = .ok (.ifCond .ne 7, 3) := by decide +kernel
theorem dX10_resultOf_100 : decode cX10_resultOf 100 = .ok (.iconst 0, 1) := by decide +kernel
theorem dX10_resultOf_101 : decode cX10_resultOf 101 = .ok (.goto 6, 3) := by decide +kernel
theorem dX10_resultOf_104 : decode cX10_resultOf 104 = .ok (.iload_n 1, 1) := by decide +kernel
theorem dX10_resultOf_105 : decode cX10_resultOf 105 = .ok (.iload_n 2, 1) := by decide +kernel
theorem dX10_resultOf_106 : decode cX10_resultOf 106 = .ok (.irem, 1) := by decide +kernel
theorem dX10_resultOf_107 : decode cX10_resultOf 107 = .ok (.ireturn, 1) := by decide +kernel
theorem dX10_resultOf_108 : decode cX10_resultOf 108 = .ok (.iload_n 1, 1) := by decide +kernel
theorem dX10_resultOf_109 : decode cX10_resultOf 109 = .ok (.iload_n 2, 1) := by decide +kernel
theorem dX10_resultOf_110 : decode cX10_resultOf 110 = .ok (.iand, 1) := by decide +kernel
theorem dX10_resultOf_111 : decode cX10_resultOf 111 = .ok (.ireturn, 1) := by decide +kernel
theorem dX10_resultOf_112 : decode cX10_resultOf 112 = .ok (.iload_n 1, 1) := by decide +kernel
theorem dX10_resultOf_113 : decode cX10_resultOf 113 = .ok (.iload_n 2, 1) := by decide +kernel
theorem dX10_resultOf_114 : decode cX10_resultOf 114 = .ok (.ior, 1) := by decide +kernel
theorem dX10_resultOf_115 : decode cX10_resultOf 115 = .ok (.ireturn, 1) := by decide +kernel
theorem dX10_resultOf_116 : decode cX10_resultOf 116 = .ok (.iload_n 1, 1) := by decide +kernel
theorem dX10_resultOf_117 : decode cX10_resultOf 117 = .ok (.iload_n 2, 1) := by decide +kernel
theorem dX10_resultOf_118 : decode cX10_resultOf 118 = .ok (.ixor, 1) := by decide +kernel
theorem dX10_resultOf_119 : decode cX10_resultOf 119 = .ok (.ireturn, 1) := by decide +kernel
theorem dX10_resultOf_120 : decode cX10_resultOf 120 = .ok (.iload_n 1, 1) := by decide +kernel
theorem dX10_resultOf_121 : decode cX10_resultOf 121 = .ok (.iload_n 2, 1) := by decide +kernel
theorem dX10_resultOf_122 : decode cX10_resultOf 122 = .ok (.bipush 31, 2) := by decide +kernel
theorem dX10_resultOf_124 : decode cX10_resultOf 124 = .ok (.iand, 1) := by decide +kernel
theorem dX10_resultOf_125 : decode cX10_resultOf 125 = .ok (.ishl, 1) := by decide +kernel
theorem dX10_resultOf_126 : decode cX10_resultOf 126 = .ok (.ireturn, 1) := by decide +kernel
theorem dX10_resultOf_127 : decode cX10_resultOf 127 = .ok (.iload_n 1, 1) := by decide +kernel
theorem dX10_resultOf_128 : decode cX10_resultOf 128 = .ok (.iload_n 2, 1) := by decide +kernel
theorem dX10_resultOf_129 : decode cX10_resultOf 129 = .ok (.bipush 31, 2) := by decide +kernel
theorem dX10_resultOf_131 : decode cX10_resultOf 131 = .ok (.iand, 1) := by decide +kernel
theorem dX10_resultOf_132 : decode cX10_resultOf 132 = .ok (.ishr, 1) := by decide +kernel
theorem dX10_resultOf_133 : decode cX10_resultOf 133 = .ok (.ireturn, 1) := by decide +kernel
theorem dX10_resultOf_134 : decode cX10_resultOf 134 = .ok (.iload_n 1, 1) := by decide +kernel
theorem dX10_resultOf_135 : decode cX10_resultOf 135 = .ok (.iload_n 2, 1) := by decide +kernel
theorem dX10_resultOf_136 : decode cX10_resultOf 136 = .ok (.if_icmp .ne 7, 3) := by decide +kernel
theorem dX10_resultOf_139 : decode cX10_resultOf 139 = .ok (.iconst 1, 1) := by decide +kernel
theorem dX10_resultOf_140 : decode cX10_resultOf 140 = .ok (.goto 4, 3) := by decide +kernel
theorem dX10_resultOf_143 : decode cX10_resultOf 143 = .ok (.iconst 0, 1) := by decide +kernel
theorem dX10_resultOf_144 : decode cX10_resultOf 144 = .ok (.ireturn, 1) := by decide +kernel
theorem dX10_resultOf_145 : decode cX10_resultOf 145 = .ok (.iload_n 1, 1) := by decide +kernel
theorem dX10_resultOf_146 : decode cX10_resultOf 146 = .ok (.iload_n 2, 1) := by decide +kernel
theorem dX10_resultOf_147 : decode cX10_resultOf 147 = .ok (.if_icmp .ge 7, 3) := by decide +kernel
theorem dX10_resultOf_150 : decode cX10_resultOf 150 = .ok (.iconst 1, 1) := by decide +kernel
theorem dX10_resultOf_151 : decode cX10_resultOf 151 = .ok (.goto 4, 3) := by decide +kernel
theorem dX10_resultOf_154 : decode cX10_resultOf 154 = .ok (.iconst 0, 1) := by decide +kernel
theorem dX10_resultOf_155 : decode cX10_resultOf 155 = .ok (.ireturn, 1) := by decide +kernel
theorem dX10_resultOf_156 : decode cX10_resultOf 156 = .ok (.iload_n 1, 1) := by decide +kernel
theorem dX10_resultOf_157 : decode cX10_resultOf 157 = .ok (.iload_n 2, 1) := by decide +kernel
theorem dX10_resultOf_158 : decode cX10_resultOf 158 = .ok (.if_icmp .le 7, 3) := by decide +kernel
theorem dX10_resultOf_161 : decode cX10_resultOf 161 = .ok (.iconst 1, 1) := by decide +kernel
theorem dX10_resultOf_162 : decode cX10_resultOf 162 = .ok (.goto 4, 3) := by decide +kernel
theorem dX10_resultOf_165 : decode cX10_resultOf 165 = .ok (.iconst 0, 1) := by decide +kernel
theorem dX10_resultOf_166 : decode cX10_resultOf 166 = .ok (.ireturn, 1) := by decide +kernel
theorem dX10_follow_0 : decode cX10_follow 0 = .ok (.getstatic 192, 3) := by decide +kernel
theorem dX10_follow_3 : decode cX10_follow 3 = .ok (.aload_n 2, 1) := by decide +kernel
theorem dX10_follow_4 : decode cX10_follow 4 = .ok (.invokevirtual 198, 3) := by decide +kernel
theorem dX10_follow_7 : decode cX10_follow 7 = .ok (.iaload, 1) := by decide +kernel
theorem dX10_follow_8 : decode cX10_follow 8 = .ok (.tableswitch 131 13 16 #[32, 39, 53, 95], 32) := by decide +kernel
theorem dX10_follow_40 : decode cX10_follow 40 = .ok (.aload_n 1, 1) := by decide +kernel
theorem dX10_follow_41 : decode cX10_follow 41 = .ok (.iload_n 3, 1) := by decide +kernel
theorem dX10_follow_42 : decode cX10_follow 42 = .ok (.putfield 128, 3) := by decide +kernel
theorem dX10_follow_45 : decode cX10_follow 45 = .ok (.iconst 0, 1) := by decide +kernel
theorem dX10_follow_46 : decode cX10_follow 46 = .ok (.ireturn, 1) := by decide +kernel
theorem dX10_follow_47 : decode cX10_follow 47 = .ok (.aload_n 1, 1) := by decide +kernel
theorem dX10_follow_48 : decode cX10_follow 48 = .ok (.invokevirtual 57, 3) := by decide +kernel
theorem dX10_follow_51 : decode cX10_follow 51 = .ok (.ifCond .ne 8, 3) := by decide +kernel
theorem dX10_follow_54 : decode cX10_follow 54 = .ok (.aload_n 1, 1) := by decide +kernel
theorem dX10_follow_55 : decode cX10_follow 55 = .ok (.iload_n 3, 1) := by decide +kernel
theorem dX10_follow_56 : decode cX10_follow 56 = .ok (.putfield 128, 3) := by decide +kernel
theorem dX10_follow_59 : decode cX10_follow 59 = .ok (.iconst 0, 1) := by decide +kernel
theorem dX10_follow_60 : decode cX10_follow 60 = .ok (.ireturn, 1) := by decide +kernel
theorem dX10_follow_61 : decode cX10_follow 61 = .ok (.aload_n 1, 1) := by decide +kernel
theorem dX10_follow_62 : decode cX10_follow 62 = .ok (.getfield 201, 3) := by decide +kernel
theorem dX10_follow_65 : decode cX10_follow 65 = .ok (.bipush 20, 2) := by decide +kernel
theorem dX10_follow_67 : decode cX10_follow 67 = .ok (.if_icmp .lt 6, 3) := by decide +kernel
theorem dX10_follow_70 : decode cX10_follow 70 = .ok (.bipush (-6), 2) := by decide +kernel
theorem dX10_follow_72 : decode cX10_follow 72 = .ok (.ireturn, 1) := by decide +kernel
theorem dX10_follow_73 : decode cX10_follow 73 = .ok (.aload_n 1, 1) := by decide +kernel
theorem dX10_follow_74 : decode cX10_follow 74 = .ok (.getfield 204, 3) := by decide +kernel
theorem dX10_follow_77 : decode cX10_follow 77 = .ok (.aload_n 1, 1) := by decide +kernel
theorem dX10_follow_78 : decode cX10_follow 78 = .ok (.getfield 201, 3) := by decide +kernel
theorem dX10_follow_81 : decode cX10_follow 81 = .ok (.aload_n 1, 1) := by decide +kernel
theorem dX10_follow_82 : decode cX10_follow 82 = .ok (.getfield 128, 3) := by decide +kernel
theorem dX10_follow_85 : decode cX10_follow 85 = .ok (.iastore, 1) := by decide +kernel
theorem dX10_follow_86 : decode cX10_follow 86 = .ok (.aload_n 1, 1) := by decide +kernel
theorem dX10_follow_87 : decode cX10_follow 87 = .ok (.dup, 1) := by decide +kernel
theorem dX10_follow_88 : decode cX10_follow 88 = .ok (.getfield 201, 3) := by decide +kernel
theorem dX10_follow_91 : decode cX10_follow 91 = .ok (.iconst 1, 1) := by decide +kernel
theorem dX10_follow_92 : decode cX10_follow 92 = .ok (.iadd, 1) := by decide +kernel
theorem dX10_follow_93 : decode cX10_follow 93 = .ok (.putfield 201, 3) := by decide +kernel
theorem dX10_follow_96 : decode cX10_follow 96 = .ok (.aload_n 1, 1) := by decide +kernel
theorem dX10_follow_97 : decode cX10_follow 97 = .ok (.iload_n 3, 1) := by decide +kernel
theorem dX10_follow_98 : decode cX10_follow 98 = .ok (.putfield 128, 3) := by decide +kernel
theorem dX10_follow_101 : decode cX10_follow 101 = .ok (.iconst 0, 1) := by decide +kernel
theorem dX10_follow_102 : decode cX10_follow 102 = .ok (.ireturn, 1) := by decide +kernel
theorem dX10_follow_103 : decode cX10_follow 103 = .ok (.aload_n 1, 1) := by decide +kernel
theorem dX10_follow_104 : decode cX10_follow 104 = .ok (.getfield 201, 3) := by decide +kernel
theorem dX10_follow_107 : decode cX10_follow 107 = .ok (.iconst 1, 1) := by decide +kernel
theorem dX10_follow_108 : decode cX10_follow 108 = .ok (.if_icmp .ge 6, 3) := by decide +kernel
theorem dX10_follow_111 : decode cX10_follow 111 = .ok (.bipush (-6), 2) := by decide +kernel
theorem dX10_follow_113 : decode cX10_follow 113 = .ok (.ireturn, 1) := by decide +kernel
theorem dX10_follow_114 : decode cX10_follow 114 = .ok (.aload_n 1, 1) := by decide +kernel
theorem dX10_follow_115 : decode cX10_follow 115 = .ok (.dup, 1) := by decide +kernel
theorem dX10_follow_116 : decode cX10_follow 116 = .ok (.getfield 201, 3) := by decide +kernel
theorem dX10_follow_119 : decode cX10_follow 119 = .ok (.iconst 1, 1) := by decide +kernel
theorem dX10_follow_120 : decode cX10_follow 120 = .ok (.isub, 1) := by decide +kernel
theorem dX10_follow_121 : decode cX10_follow 121 = .ok (.putfield 201, 3) := by decide +kernel
theorem dX10_follow_124 : decode cX10_follow 124 = .ok (.aload_n 1, 1) := by decide +kernel
theorem dX10_follow_125 : decode cX10_follow 125 = .ok (.aload_n 1, 1) := by decide +kernel
theorem dX10_follow_126 : decode cX10_follow 126 = .ok (.getfield 204, 3) := by decide +kernel
theorem dX10_follow_129 : decode cX10_follow 129 = .ok (.aload_n 1, 1) := by decide +kernel
theorem dX10_follow_130 : decode cX10_follow 130 = .ok (.getfield 201, 3) := by decide +kernel
theorem dX10_follow_133 : decode cX10_follow 133 = .ok (.iaload, 1) := by decide +kernel
theorem dX10_follow_134 : decode cX10_follow 134 = .ok (.putfield 128, 3) := by decide +kernel
theorem dX10_follow_137 : decode cX10_follow 137 = .ok (.iconst 0, 1) := by decide +kernel
theorem dX10_follow_138 : decode cX10_follow 138 = .ok (.ireturn, 1) := by decide +kernel
theorem dX10_follow_139 : decode cX10_follow 139 = .ok (.iconst 3, 1) := by decide +kernel
theorem dX10_follow_140 : decode cX10_follow 140 = .ok (.ireturn, 1) := by decide +kernel
theorem dX10_useMemory_0 : decode cX10_useMemory 0 = .ok (.aload_n 0, 1) := by decide +kernel
theorem dX10_useMemory_1 : decode cX10_useMemory 1 = .ok (.getfield 15, 3) := by decide +kernel
theorem dX10_useMemory_4 : decode cX10_useMemory 4 = .ok (.getfield 207, 3) := by decide +kernel
theorem dX10_useMemory_7 : decode cX10_useMemory 7 = .ok (.astore_n 3, 1) := by decide +kernel
theorem dX10_useMemory_8 : decode cX10_useMemory 8 = .ok (.aload_n 1, 1) := by decide +kernel
theorem dX10_useMemory_9 : decode cX10_useMemory 9 = .ok (.invokevirtual 57, 3) := by decide +kernel
theorem dX10_useMemory_12 : decode cX10_useMemory 12 = .ok (.istore 4, 2) := by decide +kernel
theorem dX10_useMemory_14 : decode cX10_useMemory 14 = .ok (.getstatic 192, 3) := by decide +kernel
theorem dX10_useMemory_17 : decode cX10_useMemory 17 = .ok (.aload_n 2, 1) := by decide +kernel
theorem dX10_useMemory_18 : decode cX10_useMemory 18 = .ok (.invokevirtual 198, 3) := by decide +kernel
theorem dX10_useMemory_21 : decode cX10_useMemory 21 = .ok (.iaload, 1) := by decide +kernel
theorem dX10_useMemory_22 : decode cX10_useMemory 22 = .ok (.tableswitch 117 17 20 #[30, 59, 88, 104], 30) := by decide +kernel
theorem dX10_useMemory_52 : decode cX10_useMemory 52 = .ok (.aload_n 3, 1) := by decide +kernel
theorem dX10_useMemory_53 : decode cX10_useMemory 53 = .ok (.aload_n 1, 1) := by decide +kernel
theorem dX10_useMemory_54 : decode cX10_useMemory 54 = .ok (.getfield 51, 3) := by decide +kernel
theorem dX10_useMemory_57 : decode cX10_useMemory 57 = .ok (.iload 4, 2) := by decide +kernel
theorem dX10_useMemory_59 : decode cX10_useMemory 59 = .ok (.invokevirtual 211, 3) := by decide +kernel
theorem dX10_useMemory_62 : decode cX10_useMemory 62 = .ok (.ifCond .ne 6, 3) := by decide +kernel
theorem dX10_useMemory_65 : decode cX10_useMemory 65 = .ok (.bipush (-5), 2) := by decide +kernel
theorem dX10_useMemory_67 : decode cX10_useMemory 67 = .ok (.ireturn, 1) := by decide +kernel
theorem dX10_useMemory_68 : decode cX10_useMemory 68 = .ok (.aload_n 1, 1) := by decide +kernel
theorem dX10_useMemory_69 : decode cX10_useMemory 69 = .ok (.aload_n 3, 1) := by decide +kernel
theorem dX10_useMemory_70 : decode cX10_useMemory 70 = .ok (.getfield 217, 3) := by decide +kernel
theorem dX10_useMemory_73 : decode cX10_useMemory 73 = .ok (.iload 4, 2) := by decide +kernel
theorem dX10_useMemory_75 : decode cX10_useMemory 75 = .ok (.iaload, 1) := by decide +kernel
theorem dX10_useMemory_76 : decode cX10_useMemory 76 = .ok (.invokevirtual 159, 3) := by decide +kernel
theorem dX10_useMemory_79 : decode cX10_useMemory 79 = .ok (.iconst 0, 1) := by decide +kernel
theorem dX10_useMemory_80 : decode cX10_useMemory 80 = .ok (.ireturn, 1) := by decide +kernel
theorem dX10_useMemory_81 : decode cX10_useMemory 81 = .ok (.aload_n 3, 1) := by decide +kernel
theorem dX10_useMemory_82 : decode cX10_useMemory 82 = .ok (.aload_n 1, 1) := by decide +kernel
theorem dX10_useMemory_83 : decode cX10_useMemory 83 = .ok (.getfield 51, 3) := by decide +kernel
theorem dX10_useMemory_86 : decode cX10_useMemory 86 = .ok (.iload 4, 2) := by decide +kernel
theorem dX10_useMemory_88 : decode cX10_useMemory 88 = .ok (.invokevirtual 211, 3) := by decide +kernel
theorem dX10_useMemory_91 : decode cX10_useMemory 91 = .ok (.ifCond .ne 6, 3) := by decide +kernel
theorem dX10_useMemory_94 : decode cX10_useMemory 94 = .ok (.bipush (-5), 2) := by decide +kernel
theorem dX10_useMemory_96 : decode cX10_useMemory 96 = .ok (.ireturn, 1) := by decide +kernel
theorem dX10_useMemory_97 : decode cX10_useMemory 97 = .ok (.aload_n 3, 1) := by decide +kernel
theorem dX10_useMemory_98 : decode cX10_useMemory 98 = .ok (.getfield 217, 3) := by decide +kernel
theorem dX10_useMemory_101 : decode cX10_useMemory 101 = .ok (.iload 4, 2) := by decide +kernel
theorem dX10_useMemory_103 : decode cX10_useMemory 103 = .ok (.aload_n 1, 1) := by decide +kernel
theorem dX10_useMemory_104 : decode cX10_useMemory 104 = .ok (.invokevirtual 57, 3) := by decide +kernel
theorem dX10_useMemory_107 : decode cX10_useMemory 107 = .ok (.iastore, 1) := by decide +kernel
theorem dX10_useMemory_108 : decode cX10_useMemory 108 = .ok (.iconst 0, 1) := by decide +kernel
theorem dX10_useMemory_109 : decode cX10_useMemory 109 = .ok (.ireturn, 1) := by decide +kernel
theorem dX10_useMemory_110 : decode cX10_useMemory 110 = .ok (.aload_n 1, 1) := by decide +kernel
theorem dX10_useMemory_111 : decode cX10_useMemory 111 = .ok (.aload_n 3, 1) := by decide +kernel
theorem dX10_useMemory_112 : decode cX10_useMemory 112 = .ok (.iload 4, 2) := by decide +kernel
theorem dX10_useMemory_114 : decode cX10_useMemory 114 = .ok (.aload_n 1, 1) := by decide +kernel
theorem dX10_useMemory_115 : decode cX10_useMemory 115 = .ok (.getfield 51, 3) := by decide +kernel
theorem dX10_useMemory_118 : decode cX10_useMemory 118 = .ok (.invokevirtual 220, 3) := by decide +kernel
theorem dX10_useMemory_121 : decode cX10_useMemory 121 = .ok (.invokevirtual 159, 3) := by decide +kernel
theorem dX10_useMemory_124 : decode cX10_useMemory 124 = .ok (.iconst 0, 1) := by decide +kernel
theorem dX10_useMemory_125 : decode cX10_useMemory 125 = .ok (.ireturn, 1) := by decide +kernel
theorem dX10_useMemory_126 : decode cX10_useMemory 126 = .ok (.aload_n 1, 1) := by decide +kernel
theorem dX10_useMemory_127 : decode cX10_useMemory 127 = .ok (.aload_n 0, 1) := by decide +kernel
theorem dX10_useMemory_128 : decode cX10_useMemory 128 = .ok (.aload_n 1, 1) := by decide +kernel
theorem dX10_useMemory_129 : decode cX10_useMemory 129 = .ok (.iload 4, 2) := by decide +kernel
theorem dX10_useMemory_131 : decode cX10_useMemory 131 = .ok (.invokevirtual 224, 3) := by decide +kernel
theorem dX10_useMemory_134 : decode cX10_useMemory 134 = .ok (.invokevirtual 159, 3) := by decide +kernel
theorem dX10_useMemory_137 : decode cX10_useMemory 137 = .ok (.iconst 0, 1) := by decide +kernel
theorem dX10_useMemory_138 : decode cX10_useMemory 138 = .ok (.ireturn, 1) := by decide +kernel
theorem dX10_useMemory_139 : decode cX10_useMemory 139 = .ok (.aload_n 1, 1) := by decide +kernel
theorem dX10_useMemory_140 : decode cX10_useMemory 140 = .ok (.aload_n 0, 1) := by decide +kernel
theorem dX10_useMemory_141 : decode cX10_useMemory 141 = .ok (.aload_n 1, 1) := by decide +kernel
theorem dX10_useMemory_142 : decode cX10_useMemory 142 = .ok (.aload_n 1, 1) := by decide +kernel
theorem dX10_useMemory_143 : decode cX10_useMemory 143 = .ok (.invokevirtual 57, 3) := by decide +kernel
theorem dX10_useMemory_146 : decode cX10_useMemory 146 = .ok (.aload_n 0, 1) := by decide +kernel
theorem dX10_useMemory_147 : decode cX10_useMemory 147 = .ok (.getfield 15, 3) := by decide +kernel
theorem dX10_useMemory_150 : decode cX10_useMemory 150 = .ok (.iload 4, 2) := by decide +kernel
theorem dX10_useMemory_152 : decode cX10_useMemory 152 = .ok (.invokevirtual 228, 3) := by decide +kernel
theorem dX10_useMemory_155 : decode cX10_useMemory 155 = .ok (.invokevirtual 232, 3) := by decide +kernel
theorem dX10_useMemory_158 : decode cX10_useMemory 158 = .ok (.invokevirtual 159, 3) := by decide +kernel
theorem dX10_useMemory_161 : decode cX10_useMemory 161 = .ok (.iconst 0, 1) := by decide +kernel
theorem dX10_useMemory_162 : decode cX10_useMemory 162 = .ok (.ireturn, 1) := by decide +kernel
theorem dX10_release_0 : decode cX10_release 0 = .ok (.aload_n 0, 1) := by decide +kernel
theorem dX10_release_1 : decode cX10_release 1 = .ok (.getfield 15, 3) := by decide +kernel
theorem dX10_release_4 : decode cX10_release 4 = .ok (.getfield 207, 3) := by decide +kernel
theorem dX10_release_7 : decode cX10_release 7 = .ok (.aload_n 1, 1) := by decide +kernel
theorem dX10_release_8 : decode cX10_release 8 = .ok (.getfield 51, 3) := by decide +kernel
theorem dX10_release_11 : decode cX10_release 11 = .ok (.iload_n 2, 1) := by decide +kernel
theorem dX10_release_12 : decode cX10_release 12 = .ok (.invokevirtual 236, 3) := by decide +kernel
theorem dX10_release_15 : decode cX10_release 15 = .ok (.ifCond .ne 5, 3) := by decide +kernel
theorem dX10_release_18 : decode cX10_release 18 = .ok (.iconst (-1), 1) := by decide +kernel
theorem dX10_release_19 : decode cX10_release 19 = .ok (.ireturn, 1) := by decide +kernel
theorem dX10_release_20 : decode cX10_release 20 = .ok (.aload_n 0, 1) := by decide +kernel
theorem dX10_release_21 : decode cX10_release 21 = .ok (.getfield 15, 3) := by decide +kernel
theorem dX10_release_24 : decode cX10_release 24 = .ok (.getfield 207, 3) := by decide +kernel
theorem dX10_release_27 : decode cX10_release 27 = .ok (.aload_n 1, 1) := by decide +kernel
theorem dX10_release_28 : decode cX10_release 28 = .ok (.getfield 51, 3) := by decide +kernel
theorem dX10_release_31 : decode cX10_release 31 = .ok (.iload_n 2, 1) := by decide +kernel
theorem dX10_release_32 : decode cX10_release 32 = .ok (.invokevirtual 239, 3) := by decide +kernel
theorem dX10_release_35 : decode cX10_release 35 = .ok (.iconst 0, 1) := by decide +kernel
theorem dX10_release_36 : decode cX10_release 36 = .ok (.ireturn, 1) := by decide +kernel
theorem dX10_give_0 : decode cX10_give 0 = .ok (.aload_n 3, 1) := by decide +kernel
theorem dX10_give_1 : decode cX10_give 1 = .ok (.ifnull 28, 3) := by decide +kernel
theorem dX10_give_4 : decode cX10_give 4 = .ok (.aload_n 3, 1) := by decide +kernel
theorem dX10_give_5 : decode cX10_give 5 = .ok (.invokevirtual 121, 3) := by decide +kernel
theorem dX10_give_8 : decode cX10_give 8 = .ok (.ifCond .eq 21, 3) := by decide +kernel
theorem dX10_give_11 : decode cX10_give 11 = .ok (.aload_n 0, 1) := by decide +kernel
theorem dX10_give_12 : decode cX10_give 12 = .ok (.getfield 15, 3) := by decide +kernel
theorem dX10_give_15 : decode cX10_give 15 = .ok (.getfield 207, 3) := by decide +kernel
theorem dX10_give_18 : decode cX10_give 18 = .ok (.aload_n 1, 1) := by decide +kernel
theorem dX10_give_19 : decode cX10_give 19 = .ok (.getfield 51, 3) := by decide +kernel
theorem dX10_give_22 : decode cX10_give 22 = .ok (.iload_n 2, 1) := by decide +kernel
theorem dX10_give_23 : decode cX10_give 23 = .ok (.invokevirtual 236, 3) := by decide +kernel
theorem dX10_give_26 : decode cX10_give 26 = .ok (.ifCond .ne 5, 3) := by decide +kernel
theorem dX10_give_29 : decode cX10_give 29 = .ok (.iconst (-1), 1) := by decide +kernel
theorem dX10_give_30 : decode cX10_give 30 = .ok (.ireturn, 1) := by decide +kernel
theorem dX10_give_31 : decode cX10_give 31 = .ok (.aload_n 0, 1) := by decide +kernel
theorem dX10_give_32 : decode cX10_give 32 = .ok (.getfield 15, 3) := by decide +kernel
theorem dX10_give_35 : decode cX10_give 35 = .ok (.getfield 207, 3) := by decide +kernel
theorem dX10_give_38 : decode cX10_give 38 = .ok (.iload_n 2, 1) := by decide +kernel
theorem dX10_give_39 : decode cX10_give 39 = .ok (.aload_n 3, 1) := by decide +kernel
theorem dX10_give_40 : decode cX10_give 40 = .ok (.getfield 51, 3) := by decide +kernel
theorem dX10_give_43 : decode cX10_give 43 = .ok (.invokevirtual 243, 3) := by decide +kernel
theorem dX10_give_46 : decode cX10_give 46 = .ok (.iconst 0, 1) := by decide +kernel
theorem dX10_give_47 : decode cX10_give 47 = .ok (.ireturn, 1) := by decide +kernel
theorem dX10_talk_0 : decode cX10_talk 0 = .ok (.getstatic 192, 3) := by decide +kernel
theorem dX10_talk_3 : decode cX10_talk 3 = .ok (.aload_n 2, 1) := by decide +kernel
theorem dX10_talk_4 : decode cX10_talk 4 = .ok (.invokevirtual 198, 3) := by decide +kernel
theorem dX10_talk_7 : decode cX10_talk 7 = .ok (.iaload, 1) := by decide +kernel
theorem dX10_talk_8 : decode cX10_talk 8 = .ok (.tableswitch 104 21 23 #[28, 56, 91], 28) := by decide +kernel
theorem dX10_talk_36 : decode cX10_talk 36 = .ok (.aload_n 0, 1) := by decide +kernel
theorem dX10_talk_37 : decode cX10_talk 37 = .ok (.getfield 15, 3) := by decide +kernel
theorem dX10_talk_40 : decode cX10_talk 40 = .ok (.aload_n 1, 1) := by decide +kernel
theorem dX10_talk_41 : decode cX10_talk 41 = .ok (.invokevirtual 57, 3) := by decide +kernel
theorem dX10_talk_44 : decode cX10_talk 44 = .ok (.invokevirtual 228, 3) := by decide +kernel
theorem dX10_talk_47 : decode cX10_talk 47 = .ok (.astore_n 3, 1) := by decide +kernel
theorem dX10_talk_48 : decode cX10_talk 48 = .ok (.aload_n 1, 1) := by decide +kernel
theorem dX10_talk_49 : decode cX10_talk 49 = .ok (.aload_n 0, 1) := by decide +kernel
theorem dX10_talk_50 : decode cX10_talk 50 = .ok (.aload_n 1, 1) := by decide +kernel
theorem dX10_talk_51 : decode cX10_talk 51 = .ok (.aload_n 1, 1) := by decide +kernel
theorem dX10_talk_52 : decode cX10_talk 52 = .ok (.invokevirtual 57, 3) := by decide +kernel
theorem dX10_talk_55 : decode cX10_talk 55 = .ok (.aload_n 3, 1) := by decide +kernel
theorem dX10_talk_56 : decode cX10_talk 56 = .ok (.invokevirtual 246, 3) := by decide +kernel
theorem dX10_talk_59 : decode cX10_talk 59 = .ok (.invokevirtual 159, 3) := by decide +kernel
theorem dX10_talk_62 : decode cX10_talk 62 = .ok (.iconst 0, 1) := by decide +kernel
theorem dX10_talk_63 : decode cX10_talk 63 = .ok (.ireturn, 1) := by decide +kernel
theorem dX10_talk_64 : decode cX10_talk 64 = .ok (.aload_n 1, 1) := by decide +kernel
theorem dX10_talk_65 : decode cX10_talk 65 = .ok (.aload_n 1, 1) := by decide +kernel
theorem dX10_talk_66 : decode cX10_talk 66 = .ok (.getfield 92, 3) := by decide +kernel
theorem dX10_talk_69 : decode cX10_talk 69 = .ok (.getfield 249, 3) := by decide +kernel
theorem dX10_talk_72 : decode cX10_talk 72 = .ok (.iconst 0, 1) := by decide +kernel
theorem dX10_talk_73 : decode cX10_talk 73 = .ok (.iaload, 1) := by decide +kernel
theorem dX10_talk_74 : decode cX10_talk 74 = .ok (.invokevirtual 159, 3) := by decide +kernel
theorem dX10_talk_77 : decode cX10_talk 77 = .ok (.aload_n 1, 1) := by decide +kernel
theorem dX10_talk_78 : decode cX10_talk 78 = .ok (.aload_n 1, 1) := by decide +kernel
theorem dX10_talk_79 : decode cX10_talk 79 = .ok (.getfield 92, 3) := by decide +kernel
theorem dX10_talk_82 : decode cX10_talk 82 = .ok (.getfield 252, 3) := by decide +kernel
theorem dX10_talk_85 : decode cX10_talk 85 = .ok (.iconst 0, 1) := by decide +kernel
theorem dX10_talk_86 : decode cX10_talk 86 = .ok (.iaload, 1) := by decide +kernel
theorem dX10_talk_87 : decode cX10_talk 87 = .ok (.invokevirtual 159, 3) := by decide +kernel
theorem dX10_talk_90 : decode cX10_talk 90 = .ok (.aload_n 1, 1) := by decide +kernel
theorem dX10_talk_91 : decode cX10_talk 91 = .ok (.getfield 92, 3) := by decide +kernel
theorem dX10_talk_94 : decode cX10_talk 94 = .ok (.invokevirtual 255, 3) := by decide +kernel
theorem dX10_talk_97 : decode cX10_talk 97 = .ok (.iconst 0, 1) := by decide +kernel
theorem dX10_talk_98 : decode cX10_talk 98 = .ok (.ireturn, 1) := by decide +kernel
theorem dX10_talk_99 : decode cX10_talk 99 = .ok (.aload_n 0, 1) := by decide +kernel
theorem dX10_talk_100 : decode cX10_talk 100 = .ok (.getfield 15, 3) := by decide +kernel
theorem dX10_talk_103 : decode cX10_talk 103 = .ok (.aload_n 1, 1) := by decide +kernel
theorem dX10_talk_104 : decode cX10_talk 104 = .ok (.invokevirtual 57, 3) := by decide +kernel
theorem dX10_talk_107 : decode cX10_talk 107 = .ok (.invokevirtual 258, 3) := by decide +kernel
theorem dX10_talk_110 : decode cX10_talk 110 = .ok (.iconst 0, 1) := by decide +kernel
theorem dX10_talk_111 : decode cX10_talk 111 = .ok (.ireturn, 1) := by decide +kernel
theorem dX10_talk_112 : decode cX10_talk 112 = .ok (.aload_n 1, 1) := by decide +kernel
theorem dX10_talk_113 : decode cX10_talk 113 = .ok (.aload_n 1, 1) := by decide +kernel
theorem dX10_talk_114 : decode cX10_talk 114 = .ok (.getfield 108, 3) := by decide +kernel
theorem dX10_talk_117 : decode cX10_talk 117 = .ok (.getfield 249, 3) := by decide +kernel
theorem dX10_talk_120 : decode cX10_talk 120 = .ok (.iconst 0, 1) := by decide +kernel
theorem dX10_talk_121 : decode cX10_talk 121 = .ok (.iaload, 1) := by decide +kernel
theorem dX10_talk_122 : decode cX10_talk 122 = .ok (.invokevirtual 159, 3) := by decide +kernel
theorem dX10_talk_125 : decode cX10_talk 125 = .ok (.aload_n 1, 1) := by decide +kernel
theorem dX10_talk_126 : decode cX10_talk 126 = .ok (.getfield 108, 3) := by decide +kernel
theorem dX10_talk_129 : decode cX10_talk 129 = .ok (.invokevirtual 255, 3) := by decide +kernel
theorem dX10_talk_132 : decode cX10_talk 132 = .ok (.iconst 0, 1) := by decide +kernel
theorem dX10_talk_133 : decode cX10_talk 133 = .ok (.ireturn, 1) := by decide +kernel
theorem dX10_send_0 : decode cX10_send 0 = .ok (.aload_n 3, 1) := by decide +kernel
theorem dX10_send_1 : decode cX10_send 1 = .ok (.ifnull 10, 3) := by decide +kernel
theorem dX10_send_4 : decode cX10_send 4 = .ok (.aload_n 3, 1) := by decide +kernel
theorem dX10_send_5 : decode cX10_send 5 = .ok (.invokevirtual 121, 3) := by decide +kernel
theorem dX10_send_8 : decode cX10_send 8 = .ok (.ifCond .ne 5, 3) := by decide +kernel
theorem dX10_send_11 : decode cX10_send 11 = .ok (.iconst (-1), 1) := by decide +kernel
theorem dX10_send_12 : decode cX10_send 12 = .ok (.ireturn, 1) := by decide +kernel
theorem dX10_send_13 : decode cX10_send 13 = .ok (.aload_n 0, 1) := by decide +kernel
theorem dX10_send_14 : decode cX10_send 14 = .ok (.getfield 15, 3) := by decide +kernel
theorem dX10_send_17 : decode cX10_send 17 = .ok (.aload_n 3, 1) := by decide +kernel
theorem dX10_send_18 : decode cX10_send 18 = .ok (.iload_n 2, 1) := by decide +kernel
theorem dX10_send_19 : decode cX10_send 19 = .ok (.aload_n 1, 1) := by decide +kernel
theorem dX10_send_20 : decode cX10_send 20 = .ok (.getfield 51, 3) := by decide +kernel
theorem dX10_send_23 : decode cX10_send 23 = .ok (.invokevirtual 261, 3) := by decide +kernel
theorem dX10_send_26 : decode cX10_send 26 = .ok (.ifCond .eq 7, 3) := by decide +kernel
theorem dX10_send_29 : decode cX10_send 29 = .ok (.iconst 0, 1) := by decide +kernel
theorem dX10_send_30 : decode cX10_send 30 = .ok (.goto 5, 3) := by decide +kernel
theorem dX10_send_33 : decode cX10_send 33 = .ok (.bipush (-2), 2) := by decide +kernel
theorem dX10_send_35 : decode cX10_send 35 = .ok (.ireturn, 1) := by decide +kernel
theorem dX10_useChildren_0 : decode cX10_useChildren 0 = .ok (.getstatic 192, 3) := by decide +kernel
theorem dX10_useChildren_3 : decode cX10_useChildren 3 = .ok (.aload_n 2, 1) := by decide +kernel
theorem dX10_useChildren_4 : decode cX10_useChildren 4 = .ok (.invokevirtual 198, 3) := by decide +kernel
theorem dX10_useChildren_7 : decode cX10_useChildren 7 = .ok (.iaload, 1) := by decide +kernel
theorem dX10_useChildren_8 : decode cX10_useChildren 8 = .ok (.tableswitch 124 24 26 #[28, 40, 59], 28) := by decide +kernel
theorem dX10_useChildren_36 : decode cX10_useChildren 36 = .ok (.aload_n 1, 1) := by decide +kernel
theorem dX10_useChildren_37 : decode cX10_useChildren 37 = .ok (.aload_n 0, 1) := by decide +kernel
theorem dX10_useChildren_38 : decode cX10_useChildren 38 = .ok (.aload_n 1, 1) := by decide +kernel
theorem dX10_useChildren_39 : decode cX10_useChildren 39 = .ok (.iload_n 3, 1) := by decide +kernel
theorem dX10_useChildren_40 : decode cX10_useChildren 40 = .ok (.invokevirtual 265, 3) := by decide +kernel
theorem dX10_useChildren_43 : decode cX10_useChildren 43 = .ok (.invokevirtual 159, 3) := by decide +kernel
theorem dX10_useChildren_46 : decode cX10_useChildren 46 = .ok (.iconst 0, 1) := by decide +kernel
theorem dX10_useChildren_47 : decode cX10_useChildren 47 = .ok (.ireturn, 1) := by decide +kernel
theorem dX10_useChildren_48 : decode cX10_useChildren 48 = .ok (.aload_n 0, 1) := by decide +kernel
theorem dX10_useChildren_49 : decode cX10_useChildren 49 = .ok (.aload_n 1, 1) := by decide +kernel
theorem dX10_useChildren_50 : decode cX10_useChildren 50 = .ok (.aload_n 0, 1) := by decide +kernel
theorem dX10_useChildren_51 : decode cX10_useChildren 51 = .ok (.getfield 15, 3) := by decide +kernel
theorem dX10_useChildren_54 : decode cX10_useChildren 54 = .ok (.aload_n 1, 1) := by decide +kernel
theorem dX10_useChildren_55 : decode cX10_useChildren 55 = .ok (.aload_n 1, 1) := by decide +kernel
theorem dX10_useChildren_56 : decode cX10_useChildren 56 = .ok (.invokevirtual 57, 3) := by decide +kernel
theorem dX10_useChildren_59 : decode cX10_useChildren 59 = .ok (.invokevirtual 117, 3) := by decide +kernel
theorem dX10_useChildren_62 : decode cX10_useChildren 62 = .ok (.invokevirtual 268, 3) := by decide +kernel
theorem dX10_useChildren_65 : decode cX10_useChildren 65 = .ok (.iconst 0, 1) := by decide +kernel
theorem dX10_useChildren_66 : decode cX10_useChildren 66 = .ok (.ireturn, 1) := by decide +kernel
theorem dX10_useChildren_67 : decode cX10_useChildren 67 = .ok (.aload_n 0, 1) := by decide +kernel
theorem dX10_useChildren_68 : decode cX10_useChildren 68 = .ok (.getfield 15, 3) := by decide +kernel
theorem dX10_useChildren_71 : decode cX10_useChildren 71 = .ok (.aload_n 1, 1) := by decide +kernel
theorem dX10_useChildren_72 : decode cX10_useChildren 72 = .ok (.aload_n 1, 1) := by decide +kernel
theorem dX10_useChildren_73 : decode cX10_useChildren 73 = .ok (.invokevirtual 57, 3) := by decide +kernel
theorem dX10_useChildren_76 : decode cX10_useChildren 76 = .ok (.invokevirtual 117, 3) := by decide +kernel
theorem dX10_useChildren_79 : decode cX10_useChildren 79 = .ok (.astore 4, 2) := by decide +kernel
theorem dX10_useChildren_81 : decode cX10_useChildren 81 = .ok (.aload 4, 2) := by decide +kernel
theorem dX10_useChildren_83 : decode cX10_useChildren 83 = .ok (.ifnull 15, 3) := by decide +kernel
theorem dX10_useChildren_86 : decode cX10_useChildren 86 = .ok (.aload 4, 2) := by decide +kernel
theorem dX10_useChildren_88 : decode cX10_useChildren 88 = .ok (.invokevirtual 121, 3) := by decide +kernel
theorem dX10_useChildren_91 : decode cX10_useChildren 91 = .ok (.ifCond .eq 7, 3) := by decide +kernel
theorem dX10_useChildren_94 : decode cX10_useChildren 94 = .ok (.iconst 1, 1) := by decide +kernel
theorem dX10_useChildren_95 : decode cX10_useChildren 95 = .ok (.goto 4, 3) := by decide +kernel
theorem dX10_useChildren_98 : decode cX10_useChildren 98 = .ok (.iconst 0, 1) := by decide +kernel
theorem dX10_useChildren_99 : decode cX10_useChildren 99 = .ok (.istore 5, 2) := by decide +kernel
theorem dX10_useChildren_101 : decode cX10_useChildren 101 = .ok (.iload 5, 2) := by decide +kernel
theorem dX10_useChildren_103 : decode cX10_useChildren 103 = .ok (.ifCond .eq 13, 3) := by decide +kernel
theorem dX10_useChildren_106 : decode cX10_useChildren 106 = .ok (.aload_n 0, 1) := by decide +kernel
theorem dX10_useChildren_107 : decode cX10_useChildren 107 = .ok (.getfield 15, 3) := by decide +kernel
theorem dX10_useChildren_110 : decode cX10_useChildren 110 = .ok (.aload 4, 2) := by decide +kernel
theorem dX10_useChildren_112 : decode cX10_useChildren 112 = .ok (.iconst (-1), 1) := by decide +kernel
theorem dX10_useChildren_113 : decode cX10_useChildren 113 = .ok (.invokevirtual 54, 3) := by decide +kernel
theorem dX10_useChildren_116 : decode cX10_useChildren 116 = .ok (.aload_n 1, 1) := by decide +kernel
theorem dX10_useChildren_117 : decode cX10_useChildren 117 = .ok (.iload 5, 2) := by decide +kernel
theorem dX10_useChildren_119 : decode cX10_useChildren 119 = .ok (.ifCond .eq 7, 3) := by decide +kernel
theorem dX10_useChildren_122 : decode cX10_useChildren 122 = .ok (.iconst 0, 1) := by decide +kernel
theorem dX10_useChildren_123 : decode cX10_useChildren 123 = .ok (.goto 4, 3) := by decide +kernel
theorem dX10_useChildren_126 : decode cX10_useChildren 126 = .ok (.iconst (-1), 1) := by decide +kernel
theorem dX10_useChildren_127 : decode cX10_useChildren 127 = .ok (.invokevirtual 159, 3) := by decide +kernel
theorem dX10_useChildren_130 : decode cX10_useChildren 130 = .ok (.iconst 0, 1) := by decide +kernel
theorem dX10_useChildren_131 : decode cX10_useChildren 131 = .ok (.ireturn, 1) := by decide +kernel
theorem dX10_useChildren_132 : decode cX10_useChildren 132 = .ok (.aload_n 1, 1) := by decide +kernel
theorem dX10_useChildren_133 : decode cX10_useChildren 133 = .ok (.aload_n 1, 1) := by decide +kernel
theorem dX10_useChildren_134 : decode cX10_useChildren 134 = .ok (.getfield 51, 3) := by decide +kernel
theorem dX10_useChildren_137 : decode cX10_useChildren 137 = .ok (.invokevirtual 159, 3) := by decide +kernel
theorem dX10_useChildren_140 : decode cX10_useChildren 140 = .ok (.iconst 0, 1) := by decide +kernel
theorem dX10_useChildren_141 : decode cX10_useChildren 141 = .ok (.ireturn, 1) := by decide +kernel
theorem dX10_spawn_0 : decode cX10_spawn 0 = .ok (.aload_n 0, 1) := by decide +kernel
theorem dX10_spawn_1 : decode cX10_spawn 1 = .ok (.getfield 15, 3) := by decide +kernel
theorem dX10_spawn_4 : decode cX10_spawn 4 = .ok (.invokevirtual 272, 3) := by decide +kernel
theorem dX10_spawn_7 : decode cX10_spawn 7 = .ok (.astore_n 3, 1) := by decide +kernel
theorem dX10_spawn_8 : decode cX10_spawn 8 = .ok (.aload_n 3, 1) := by decide +kernel
theorem dX10_spawn_9 : decode cX10_spawn 9 = .ok (.ifnull 10, 3) := by decide +kernel
theorem dX10_spawn_12 : decode cX10_spawn 12 = .ok (.aload_n 1, 1) := by decide +kernel
theorem dX10_spawn_13 : decode cX10_spawn 13 = .ok (.getfield 275, 3) := by decide +kernel
theorem dX10_spawn_16 : decode cX10_spawn 16 = .ok (.ifnonnull 5, 3) := by decide +kernel
theorem dX10_spawn_19 : decode cX10_spawn 19 = .ok (.iconst (-1), 1) := by decide +kernel
theorem dX10_spawn_20 : decode cX10_spawn 20 = .ok (.ireturn, 1) := by decide +kernel
theorem dX10_spawn_21 : decode cX10_spawn 21 = .ok (.aload_n 0, 1) := by decide +kernel
theorem dX10_spawn_22 : decode cX10_spawn 22 = .ok (.getfield 15, 3) := by decide +kernel
theorem dX10_spawn_25 : decode cX10_spawn 25 = .ok (.aload_n 3, 1) := by decide +kernel
theorem dX10_spawn_26 : decode cX10_spawn 26 = .ok (.aload_n 1, 1) := by decide +kernel
theorem dX10_spawn_27 : decode cX10_spawn 27 = .ok (.getfield 275, 3) := by decide +kernel
theorem dX10_spawn_30 : decode cX10_spawn 30 = .ok (.aload_n 1, 1) := by decide +kernel
theorem dX10_spawn_31 : decode cX10_spawn 31 = .ok (.getfield 67, 3) := by decide +kernel
theorem dX10_spawn_34 : decode cX10_spawn 34 = .ok (.invokevirtual 279, 3) := by decide +kernel
theorem dX10_spawn_37 : decode cX10_spawn 37 = .ok (.aload_n 3, 1) := by decide +kernel
theorem dX10_spawn_38 : decode cX10_spawn 38 = .ok (.aload_n 1, 1) := by decide +kernel
theorem dX10_spawn_39 : decode cX10_spawn 39 = .ok (.getfield 51, 3) := by decide +kernel
theorem dX10_spawn_42 : decode cX10_spawn 42 = .ok (.putfield 283, 3) := by decide +kernel
theorem dX10_spawn_45 : decode cX10_spawn 45 = .ok (.aload_n 3, 1) := by decide +kernel
theorem dX10_spawn_46 : decode cX10_spawn 46 = .ok (.iload_n 2, 1) := by decide +kernel
theorem dX10_spawn_47 : decode cX10_spawn 47 = .ok (.putfield 128, 3) := by decide +kernel
theorem dX10_spawn_50 : decode cX10_spawn 50 = .ok (.aload_n 3, 1) := by decide +kernel
theorem dX10_spawn_51 : decode cX10_spawn 51 = .ok (.getfield 51, 3) := by decide +kernel
theorem dX10_spawn_54 : decode cX10_spawn 54 = .ok (.ireturn, 1) := by decide +kernel
theorem dX10_collect_0 : decode cX10_collect 0 = .ok (.aload_n 2, 1) := by decide +kernel
theorem dX10_collect_1 : decode cX10_collect 1 = .ok (.ifnonnull 16, 3) := by decide +kernel
theorem dX10_collect_4 : decode cX10_collect 4 = .ok (.aload_n 1, 1) := by decide +kernel
theorem dX10_collect_5 : decode cX10_collect 5 = .ok (.iconst 0, 1) := by decide +kernel
theorem dX10_collect_6 : decode cX10_collect 6 = .ok (.invokevirtual 159, 3) := by decide +kernel
theorem dX10_collect_9 : decode cX10_collect 9 = .ok (.aload_n 1, 1) := by decide +kernel
theorem dX10_collect_10 : decode cX10_collect 10 = .ok (.iconst 0, 1) := by decide +kernel
theorem dX10_collect_11 : decode cX10_collect 11 = .ok (.invokevirtual 159, 3) := by decide +kernel
theorem dX10_collect_14 : decode cX10_collect 14 = .ok (.goto 20, 3) := by decide +kernel
theorem dX10_collect_17 : decode cX10_collect 17 = .ok (.aload_n 1, 1) := by decide +kernel
theorem dX10_collect_18 : decode cX10_collect 18 = .ok (.aload_n 2, 1) := by decide +kernel
theorem dX10_collect_19 : decode cX10_collect 19 = .ok (.getfield 286, 3) := by decide +kernel
theorem dX10_collect_22 : decode cX10_collect 22 = .ok (.invokevirtual 159, 3) := by decide +kernel
theorem dX10_collect_25 : decode cX10_collect 25 = .ok (.aload_n 1, 1) := by decide +kernel
theorem dX10_collect_26 : decode cX10_collect 26 = .ok (.iconst 1, 1) := by decide +kernel
theorem dX10_collect_27 : decode cX10_collect 27 = .ok (.invokevirtual 159, 3) := by decide +kernel
theorem dX10_collect_30 : decode cX10_collect 30 = .ok (.aload_n 2, 1) := by decide +kernel
theorem dX10_collect_31 : decode cX10_collect 31 = .ok (.invokevirtual 289, 3) := by decide +kernel
theorem dX10_collect_34 : decode cX10_collect 34 = .ok (.return_, 1) := by decide +kernel
theorem dX10_takeTurn_0 : decode cX10_takeTurn 0 = .ok (.aload_n 2, 1) := by decide +kernel
theorem dX10_takeTurn_1 : decode cX10_takeTurn 1 = .ok (.getstatic 292, 3) := by decide +kernel
theorem dX10_takeTurn_4 : decode cX10_takeTurn 4 = .ok (.if_acmp .ne 17, 3) := by decide +kernel
theorem dX10_takeTurn_7 : decode cX10_takeTurn 7 = .ok (.aload_n 0, 1) := by decide +kernel
theorem dX10_takeTurn_8 : decode cX10_takeTurn 8 = .ok (.getfield 15, 3) := by decide +kernel
theorem dX10_takeTurn_11 : decode cX10_takeTurn 11 = .ok (.aload_n 1, 1) := by decide +kernel
theorem dX10_takeTurn_12 : decode cX10_takeTurn 12 = .ok (.aload_n 1, 1) := by decide +kernel
theorem dX10_takeTurn_13 : decode cX10_takeTurn 13 = .ok (.getfield 67, 3) := by decide +kernel
theorem dX10_takeTurn_16 : decode cX10_takeTurn 16 = .ok (.invokevirtual 70, 3) := by decide +kernel
theorem dX10_takeTurn_19 : decode cX10_takeTurn 19 = .ok (.iconst 1, 1) := by decide +kernel
theorem dX10_takeTurn_20 : decode cX10_takeTurn 20 = .ok (.ireturn, 1) := by decide +kernel
theorem dX10_takeTurn_21 : decode cX10_takeTurn 21 = .ok (.aload_n 1, 1) := by decide +kernel
theorem dX10_takeTurn_22 : decode cX10_takeTurn 22 = .ok (.invokevirtual 57, 3) := by decide +kernel
theorem dX10_takeTurn_25 : decode cX10_takeTurn 25 = .ok (.istore_n 3, 1) := by decide +kernel
theorem dX10_takeTurn_26 : decode cX10_takeTurn 26 = .ok (.aload_n 2, 1) := by decide +kernel
theorem dX10_takeTurn_27 : decode cX10_takeTurn 27 = .ok (.getstatic 295, 3) := by decide +kernel
theorem dX10_takeTurn_30 : decode cX10_takeTurn 30 = .ok (.if_acmp .eq 10, 3) := by decide +kernel
theorem dX10_takeTurn_33 : decode cX10_takeTurn 33 = .ok (.aload_n 2, 1) := by decide +kernel
theorem dX10_takeTurn_34 : decode cX10_takeTurn 34 = .ok (.getstatic 298, 3) := by decide +kernel
theorem dX10_takeTurn_37 : decode cX10_takeTurn 37 = .ok (.if_acmp .ne 26, 3) := by decide +kernel
theorem dX10_takeTurn_40 : decode cX10_takeTurn 40 = .ok (.iload_n 3, 1) := by decide +kernel
theorem dX10_takeTurn_41 : decode cX10_takeTurn 41 = .ok (.ifCond .lt 9, 3) := by decide +kernel
theorem dX10_takeTurn_44 : decode cX10_takeTurn 44 = .ok (.iload_n 3, 1) := by decide +kernel
theorem dX10_takeTurn_45 : decode cX10_takeTurn 45 = .ok (.bipush 8, 2) := by decide +kernel
theorem dX10_takeTurn_47 : decode cX10_takeTurn 47 = .ok (.if_icmp .lt 8, 3) := by decide +kernel
theorem dX10_takeTurn_50 : decode cX10_takeTurn 50 = .ok (.bipush (-8), 2) := by decide +kernel
theorem dX10_takeTurn_52 : decode cX10_takeTurn 52 = .ok (.goto 10, 3) := by decide +kernel
theorem dX10_takeTurn_55 : decode cX10_takeTurn 55 = .ok (.aload_n 0, 1) := by decide +kernel
theorem dX10_takeTurn_56 : decode cX10_takeTurn 56 = .ok (.aload_n 1, 1) := by decide +kernel
theorem dX10_takeTurn_57 : decode cX10_takeTurn 57 = .ok (.aload_n 2, 1) := by decide +kernel
theorem dX10_takeTurn_58 : decode cX10_takeTurn 58 = .ok (.iload_n 3, 1) := by decide +kernel
theorem dX10_takeTurn_59 : decode cX10_takeTurn 59 = .ok (.invokevirtual 301, 3) := by decide +kernel
theorem dX10_takeTurn_62 : decode cX10_takeTurn 62 = .ok (.ireturn, 1) := by decide +kernel
theorem dX10_takeTurn_63 : decode cX10_takeTurn 63 = .ok (.aload_n 2, 1) := by decide +kernel
theorem dX10_takeTurn_64 : decode cX10_takeTurn 64 = .ok (.getstatic 304, 3) := by decide +kernel
theorem dX10_takeTurn_67 : decode cX10_takeTurn 67 = .ok (.if_acmp .ne 15, 3) := by decide +kernel
theorem dX10_takeTurn_70 : decode cX10_takeTurn 70 = .ok (.iload_n 3, 1) := by decide +kernel
theorem dX10_takeTurn_71 : decode cX10_takeTurn 71 = .ok (.ifCond .lt 8, 3) := by decide +kernel
theorem dX10_takeTurn_74 : decode cX10_takeTurn 74 = .ok (.iload_n 3, 1) := by decide +kernel
theorem dX10_takeTurn_75 : decode cX10_takeTurn 75 = .ok (.iconst 3, 1) := by decide +kernel
theorem dX10_takeTurn_76 : decode cX10_takeTurn 76 = .ok (.if_icmp .lt 6, 3) := by decide +kernel
theorem dX10_takeTurn_79 : decode cX10_takeTurn 79 = .ok (.bipush (-9), 2) := by decide +kernel
theorem dX10_takeTurn_81 : decode cX10_takeTurn 81 = .ok (.ireturn, 1) := by decide +kernel
theorem dX10_takeTurn_82 : decode cX10_takeTurn 82 = .ok (.aload_n 2, 1) := by decide +kernel
theorem dX10_takeTurn_83 : decode cX10_takeTurn 83 = .ok (.getstatic 304, 3) := by decide +kernel
theorem dX10_takeTurn_86 : decode cX10_takeTurn 86 = .ok (.if_acmp .ne 15, 3) := by decide +kernel
theorem dX10_takeTurn_89 : decode cX10_takeTurn 89 = .ok (.aload_n 0, 1) := by decide +kernel
theorem dX10_takeTurn_90 : decode cX10_takeTurn 90 = .ok (.getfield 15, 3) := by decide +kernel
theorem dX10_takeTurn_93 : decode cX10_takeTurn 93 = .ok (.aload_n 1, 1) := by decide +kernel
theorem dX10_takeTurn_94 : decode cX10_takeTurn 94 = .ok (.iload_n 3, 1) := by decide +kernel
theorem dX10_takeTurn_95 : decode cX10_takeTurn 95 = .ok (.invokevirtual 70, 3) := by decide +kernel
theorem dX10_takeTurn_98 : decode cX10_takeTurn 98 = .ok (.goto 32, 3) := by decide +kernel
theorem dX10_takeTurn_101 : decode cX10_takeTurn 101 = .ok (.iload_n 3, 1) := by decide +kernel
theorem dX10_takeTurn_102 : decode cX10_takeTurn 102 = .ok (.iconst 1, 1) := by decide +kernel
theorem dX10_takeTurn_103 : decode cX10_takeTurn 103 = .ok (.if_icmp .ge 18, 3) := by decide +kernel
theorem dX10_takeTurn_106 : decode cX10_takeTurn 106 = .ok (.aload_n 0, 1) := by decide +kernel
theorem dX10_takeTurn_107 : decode cX10_takeTurn 107 = .ok (.getfield 15, 3) := by decide +kernel
theorem dX10_takeTurn_110 : decode cX10_takeTurn 110 = .ok (.aload_n 1, 1) := by decide +kernel
theorem dX10_takeTurn_111 : decode cX10_takeTurn 111 = .ok (.aload_n 1, 1) := by decide +kernel
theorem dX10_takeTurn_112 : decode cX10_takeTurn 112 = .ok (.getfield 67, 3) := by decide +kernel
theorem dX10_takeTurn_115 : decode cX10_takeTurn 115 = .ok (.invokevirtual 70, 3) := by decide +kernel
theorem dX10_takeTurn_118 : decode cX10_takeTurn 118 = .ok (.goto 12, 3) := by decide +kernel
theorem dX10_takeTurn_121 : decode cX10_takeTurn 121 = .ok (.aload_n 0, 1) := by decide +kernel
theorem dX10_takeTurn_122 : decode cX10_takeTurn 122 = .ok (.getfield 15, 3) := by decide +kernel
theorem dX10_takeTurn_125 : decode cX10_takeTurn 125 = .ok (.aload_n 1, 1) := by decide +kernel
theorem dX10_takeTurn_126 : decode cX10_takeTurn 126 = .ok (.iload_n 3, 1) := by decide +kernel
theorem dX10_takeTurn_127 : decode cX10_takeTurn 127 = .ok (.invokevirtual 307, 3) := by decide +kernel
theorem dX10_takeTurn_130 : decode cX10_takeTurn 130 = .ok (.iconst 1, 1) := by decide +kernel
theorem dX10_takeTurn_131 : decode cX10_takeTurn 131 = .ok (.ireturn, 1) := by decide +kernel
theorem dX10_useSemaphore_0 : decode cX10_useSemaphore 0 = .ok (.aload_n 0, 1) := by decide +kernel
theorem dX10_useSemaphore_1 : decode cX10_useSemaphore 1 = .ok (.getfield 15, 3) := by decide +kernel
theorem dX10_useSemaphore_4 : decode cX10_useSemaphore 4 = .ok (.getfield 310, 3) := by decide +kernel
theorem dX10_useSemaphore_7 : decode cX10_useSemaphore 7 = .ok (.iload_n 3, 1) := by decide +kernel
theorem dX10_useSemaphore_8 : decode cX10_useSemaphore 8 = .ok (.aaload, 1) := by decide +kernel
theorem dX10_useSemaphore_9 : decode cX10_useSemaphore 9 = .ok (.astore 4, 2) := by decide +kernel
theorem dX10_useSemaphore_11 : decode cX10_useSemaphore 11 = .ok (.aload_n 2, 1) := by decide +kernel
theorem dX10_useSemaphore_12 : decode cX10_useSemaphore 12 = .ok (.getstatic 298, 3) := by decide +kernel
theorem dX10_useSemaphore_15 : decode cX10_useSemaphore 15 = .ok (.if_acmp .ne 74, 3) := by decide +kernel
theorem dX10_useSemaphore_18 : decode cX10_useSemaphore 18 = .ok (.aload_n 0, 1) := by decide +kernel
theorem dX10_useSemaphore_19 : decode cX10_useSemaphore 19 = .ok (.getfield 15, 3) := by decide +kernel
theorem dX10_useSemaphore_22 : decode cX10_useSemaphore 22 = .ok (.aload 4, 2) := by decide +kernel
theorem dX10_useSemaphore_24 : decode cX10_useSemaphore 24 = .ok (.invokevirtual 314, 3) := by decide +kernel
theorem dX10_useSemaphore_27 : decode cX10_useSemaphore 27 = .ok (.invokevirtual 228, 3) := by decide +kernel
theorem dX10_useSemaphore_30 : decode cX10_useSemaphore 30 = .ok (.astore 5, 2) := by decide +kernel
theorem dX10_useSemaphore_32 : decode cX10_useSemaphore 32 = .ok (.aload 5, 2) := by decide +kernel
theorem dX10_useSemaphore_34 : decode cX10_useSemaphore 34 = .ok (.ifnull 25, 3) := by decide +kernel
theorem dX10_useSemaphore_37 : decode cX10_useSemaphore 37 = .ok (.aload 4, 2) := by decide +kernel
theorem dX10_useSemaphore_39 : decode cX10_useSemaphore 39 = .ok (.aload 5, 2) := by decide +kernel
theorem dX10_useSemaphore_41 : decode cX10_useSemaphore 41 = .ok (.getfield 51, 3) := by decide +kernel
theorem dX10_useSemaphore_44 : decode cX10_useSemaphore 44 = .ok (.invokevirtual 319, 3) := by decide +kernel
theorem dX10_useSemaphore_47 : decode cX10_useSemaphore 47 = .ok (.aload_n 0, 1) := by decide +kernel
theorem dX10_useSemaphore_48 : decode cX10_useSemaphore 48 = .ok (.getfield 15, 3) := by decide +kernel
theorem dX10_useSemaphore_51 : decode cX10_useSemaphore 51 = .ok (.aload 5, 2) := by decide +kernel
theorem dX10_useSemaphore_53 : decode cX10_useSemaphore 53 = .ok (.invokevirtual 322, 3) := by decide +kernel
theorem dX10_useSemaphore_56 : decode cX10_useSemaphore 56 = .ok (.goto 31, 3) := by decide +kernel
theorem dX10_useSemaphore_59 : decode cX10_useSemaphore 59 = .ok (.aload_n 0, 1) := by decide +kernel
theorem dX10_useSemaphore_60 : decode cX10_useSemaphore 60 = .ok (.getfield 15, 3) := by decide +kernel
theorem dX10_useSemaphore_63 : decode cX10_useSemaphore 63 = .ok (.getfield 326, 3) := by decide +kernel
theorem dX10_useSemaphore_66 : decode cX10_useSemaphore 66 = .ok (.iload_n 3, 1) := by decide +kernel
theorem dX10_useSemaphore_67 : decode cX10_useSemaphore 67 = .ok (.iaload, 1) := by decide +kernel
theorem dX10_useSemaphore_68 : decode cX10_useSemaphore 68 = .ok (.ldc_w 329, 3) := by decide +kernel
theorem dX10_useSemaphore_71 : decode cX10_useSemaphore 71 = .ok (.if_icmp .ge 16, 3) := by decide +kernel
theorem dX10_useSemaphore_74 : decode cX10_useSemaphore 74 = .ok (.aload_n 0, 1) := by decide +kernel
theorem dX10_useSemaphore_75 : decode cX10_useSemaphore 75 = .ok (.getfield 15, 3) := by decide +kernel
theorem dX10_useSemaphore_78 : decode cX10_useSemaphore 78 = .ok (.getfield 326, 3) := by decide +kernel
theorem dX10_useSemaphore_81 : decode cX10_useSemaphore 81 = .ok (.iload_n 3, 1) := by decide +kernel
theorem dX10_useSemaphore_82 : decode cX10_useSemaphore 82 = .ok (.dup2, 1) := by decide +kernel
theorem dX10_useSemaphore_83 : decode cX10_useSemaphore 83 = .ok (.iaload, 1) := by decide +kernel
theorem dX10_useSemaphore_84 : decode cX10_useSemaphore 84 = .ok (.iconst 1, 1) := by decide +kernel
theorem dX10_useSemaphore_85 : decode cX10_useSemaphore 85 = .ok (.iadd, 1) := by decide +kernel
theorem dX10_useSemaphore_86 : decode cX10_useSemaphore 86 = .ok (.iastore, 1) := by decide +kernel
theorem dX10_useSemaphore_87 : decode cX10_useSemaphore 87 = .ok (.iconst 0, 1) := by decide +kernel
theorem dX10_useSemaphore_88 : decode cX10_useSemaphore 88 = .ok (.ireturn, 1) := by decide +kernel
theorem dX10_useSemaphore_89 : decode cX10_useSemaphore 89 = .ok (.aload_n 0, 1) := by decide +kernel
theorem dX10_useSemaphore_90 : decode cX10_useSemaphore 90 = .ok (.getfield 15, 3) := by decide +kernel
theorem dX10_useSemaphore_93 : decode cX10_useSemaphore 93 = .ok (.getfield 326, 3) := by decide +kernel
theorem dX10_useSemaphore_96 : decode cX10_useSemaphore 96 = .ok (.iload_n 3, 1) := by decide +kernel
theorem dX10_useSemaphore_97 : decode cX10_useSemaphore 97 = .ok (.iaload, 1) := by decide +kernel
theorem dX10_useSemaphore_98 : decode cX10_useSemaphore 98 = .ok (.ifCond .le 18, 3) := by decide +kernel
theorem dX10_useSemaphore_101 : decode cX10_useSemaphore 101 = .ok (.aload_n 0, 1) := by decide +kernel
theorem dX10_useSemaphore_102 : decode cX10_useSemaphore 102 = .ok (.getfield 15, 3) := by decide +kernel
theorem dX10_useSemaphore_105 : decode cX10_useSemaphore 105 = .ok (.getfield 326, 3) := by decide +kernel
theorem dX10_useSemaphore_108 : decode cX10_useSemaphore 108 = .ok (.iload_n 3, 1) := by decide +kernel
theorem dX10_useSemaphore_109 : decode cX10_useSemaphore 109 = .ok (.dup2, 1) := by decide +kernel
theorem dX10_useSemaphore_110 : decode cX10_useSemaphore 110 = .ok (.iaload, 1) := by decide +kernel
theorem dX10_useSemaphore_111 : decode cX10_useSemaphore 111 = .ok (.iconst 1, 1) := by decide +kernel
theorem dX10_useSemaphore_112 : decode cX10_useSemaphore 112 = .ok (.isub, 1) := by decide +kernel
theorem dX10_useSemaphore_113 : decode cX10_useSemaphore 113 = .ok (.iastore, 1) := by decide +kernel
theorem dX10_useSemaphore_114 : decode cX10_useSemaphore 114 = .ok (.iconst 0, 1) := by decide +kernel
theorem dX10_useSemaphore_115 : decode cX10_useSemaphore 115 = .ok (.ireturn, 1) := by decide +kernel
theorem dX10_useSemaphore_116 : decode cX10_useSemaphore 116 = .ok (.aload_n 0, 1) := by decide +kernel
theorem dX10_useSemaphore_117 : decode cX10_useSemaphore 117 = .ok (.getfield 15, 3) := by decide +kernel
theorem dX10_useSemaphore_120 : decode cX10_useSemaphore 120 = .ok (.aload_n 1, 1) := by decide +kernel
theorem dX10_useSemaphore_121 : decode cX10_useSemaphore 121 = .ok (.bipush 6, 2) := by decide +kernel
theorem dX10_useSemaphore_123 : decode cX10_useSemaphore 123 = .ok (.iload_n 3, 1) := by decide +kernel
theorem dX10_useSemaphore_124 : decode cX10_useSemaphore 124 = .ok (.invokevirtual 101, 3) := by decide +kernel
theorem dX10_useSemaphore_127 : decode cX10_useSemaphore 127 = .ok (.aload 4, 2) := by decide +kernel
theorem dX10_useSemaphore_129 : decode cX10_useSemaphore 129 = .ok (.aload_n 1, 1) := by decide +kernel
theorem dX10_useSemaphore_130 : decode cX10_useSemaphore 130 = .ok (.getfield 51, 3) := by decide +kernel
theorem dX10_useSemaphore_133 : decode cX10_useSemaphore 133 = .ok (.invokevirtual 330, 3) := by decide +kernel
theorem dX10_useSemaphore_136 : decode cX10_useSemaphore 136 = .ok (.iconst 1, 1) := by decide +kernel
theorem dX10_useSemaphore_137 : decode cX10_useSemaphore 137 = .ok (.ireturn, 1) := by decide +kernel
theorem dX11_init_0 : decode cX11_init 0 = .ok (.aload_n 0, 1) := by decide +kernel
theorem dX11_init_1 : decode cX11_init 1 = .ok (.invokespecial 1, 3) := by decide +kernel
theorem dX11_init_4 : decode cX11_init 4 = .ok (.aload_n 0, 1) := by decide +kernel
theorem dX11_init_5 : decode cX11_init 5 = .ok (.new 7, 3) := by decide +kernel
theorem dX11_init_8 : decode cX11_init 8 = .ok (.dup, 1) := by decide +kernel
theorem dX11_init_9 : decode cX11_init 9 = .ok (.invokespecial 9, 3) := by decide +kernel
theorem dX11_init_12 : decode cX11_init 12 = .ok (.putfield 10, 3) := by decide +kernel
theorem dX11_init_15 : decode cX11_init 15 = .ok (.aload_n 0, 1) := by decide +kernel
theorem dX11_init_16 : decode cX11_init 16 = .ok (.new 16, 3) := by decide +kernel
theorem dX11_init_19 : decode cX11_init 19 = .ok (.dup, 1) := by decide +kernel
theorem dX11_init_20 : decode cX11_init 20 = .ok (.aload_n 0, 1) := by decide +kernel
theorem dX11_init_21 : decode cX11_init 21 = .ok (.getfield 10, 3) := by decide +kernel
theorem dX11_init_24 : decode cX11_init 24 = .ok (.invokespecial 18, 3) := by decide +kernel
theorem dX11_init_27 : decode cX11_init 27 = .ok (.putfield 21, 3) := by decide +kernel
theorem dX11_init_30 : decode cX11_init 30 = .ok (.aload_n 0, 1) := by decide +kernel
theorem dX11_init_31 : decode cX11_init 31 = .ok (.new 25, 3) := by decide +kernel
theorem dX11_init_34 : decode cX11_init 34 = .ok (.dup, 1) := by decide +kernel
theorem dX11_init_35 : decode cX11_init 35 = .ok (.invokespecial 27, 3) := by decide +kernel
theorem dX11_init_38 : decode cX11_init 38 = .ok (.putfield 28, 3) := by decide +kernel
theorem dX11_init_41 : decode cX11_init 41 = .ok (.aload_n 0, 1) := by decide +kernel
theorem dX11_init_42 : decode cX11_init 42 = .ok (.new 32, 3) := by decide +kernel
theorem dX11_init_45 : decode cX11_init 45 = .ok (.dup, 1) := by decide +kernel
theorem dX11_init_46 : decode cX11_init 46 = .ok (.aload_n 0, 1) := by decide +kernel
theorem dX11_init_47 : decode cX11_init 47 = .ok (.getfield 28, 3) := by decide +kernel
theorem dX11_init_50 : decode cX11_init 50 = .ok (.invokespecial 34, 3) := by decide +kernel
theorem dX11_init_53 : decode cX11_init 53 = .ok (.putfield 37, 3) := by decide +kernel
theorem dX11_init_56 : decode cX11_init 56 = .ok (.return_, 1) := by decide +kernel
theorem dX11_feed_0 : decode cX11_feed 0 = .ok (.aload_n 0, 1) := by decide +kernel
theorem dX11_feed_1 : decode cX11_feed 1 = .ok (.getfield 10, 3) := by decide +kernel
theorem dX11_feed_4 : decode cX11_feed 4 = .ok (.getfield 41, 3) := by decide +kernel
theorem dX11_feed_7 : decode cX11_feed 7 = .ok (.bipush 20, 2) := by decide +kernel
theorem dX11_feed_9 : decode cX11_feed 9 = .ok (.iadd, 1) := by decide +kernel
theorem dX11_feed_10 : decode cX11_feed 10 = .ok (.sipush 8192, 3) := by decide +kernel
theorem dX11_feed_13 : decode cX11_feed 13 = .ok (.if_icmp .le 13, 3) := by decide +kernel
theorem dX11_feed_16 : decode cX11_feed 16 = .ok (.new 45, 3) := by decide +kernel
theorem dX11_feed_19 : decode cX11_feed 19 = .ok (.dup, 1) := by decide +kernel
theorem dX11_feed_20 : decode cX11_feed 20 = .ok (.ldc 47, 2) := by decide +kernel
theorem dX11_feed_22 : decode cX11_feed 22 = .ok (.invokespecial 49, 3) := by decide +kernel
theorem dX11_feed_25 : decode cX11_feed 25 = .ok (.athrow, 1) := by decide +kernel
theorem dX11_feed_26 : decode cX11_feed 26 = .ok (.aload_n 0, 1) := by decide +kernel
theorem dX11_feed_27 : decode cX11_feed 27 = .ok (.getfield 10, 3) := by decide +kernel
theorem dX11_feed_30 : decode cX11_feed 30 = .ok (.iload_n 1, 1) := by decide +kernel
theorem dX11_feed_31 : decode cX11_feed 31 = .ok (.invokevirtual 52, 3) := by decide +kernel
theorem dX11_feed_34 : decode cX11_feed 34 = .ok (.aload_n 0, 1) := by decide +kernel
theorem dX11_feed_35 : decode cX11_feed 35 = .ok (.getfield 10, 3) := by decide +kernel
theorem dX11_feed_38 : decode cX11_feed 38 = .ok (.iload_n 2, 1) := by decide +kernel
theorem dX11_feed_39 : decode cX11_feed 39 = .ok (.invokevirtual 52, 3) := by decide +kernel
theorem dX11_feed_42 : decode cX11_feed 42 = .ok (.aload_n 0, 1) := by decide +kernel
theorem dX11_feed_43 : decode cX11_feed 43 = .ok (.getfield 10, 3) := by decide +kernel
theorem dX11_feed_46 : decode cX11_feed 46 = .ok (.iload_n 3, 1) := by decide +kernel
theorem dX11_feed_47 : decode cX11_feed 47 = .ok (.invokevirtual 52, 3) := by decide +kernel
theorem dX11_feed_50 : decode cX11_feed 50 = .ok (.aload_n 0, 1) := by decide +kernel
theorem dX11_feed_51 : decode cX11_feed 51 = .ok (.getfield 10, 3) := by decide +kernel
theorem dX11_feed_54 : decode cX11_feed 54 = .ok (.iload 4, 2) := by decide +kernel
theorem dX11_feed_56 : decode cX11_feed 56 = .ok (.invokevirtual 52, 3) := by decide +kernel
theorem dX11_feed_59 : decode cX11_feed 59 = .ok (.aload_n 0, 1) := by decide +kernel
theorem dX11_feed_60 : decode cX11_feed 60 = .ok (.getfield 10, 3) := by decide +kernel
theorem dX11_feed_63 : decode cX11_feed 63 = .ok (.iload 5, 2) := by decide +kernel
theorem dX11_feed_65 : decode cX11_feed 65 = .ok (.invokevirtual 52, 3) := by decide +kernel
theorem dX11_feed_68 : decode cX11_feed 68 = .ok (.aload_n 0, 1) := by decide +kernel
theorem dX11_feed_69 : decode cX11_feed 69 = .ok (.getfield 10, 3) := by decide +kernel
theorem dX11_feed_72 : decode cX11_feed 72 = .ok (.getfield 41, 3) := by decide +kernel
theorem dX11_feed_75 : decode cX11_feed 75 = .ok (.ireturn, 1) := by decide +kernel
theorem dX11_end_0 : decode cX11_end 0 = .ok (.iload_n 1, 1) := by decide +kernel
theorem dX11_end_1 : decode cX11_end 1 = .ok (.ifCond .lt 14, 3) := by decide +kernel
theorem dX11_end_4 : decode cX11_end 4 = .ok (.iload_n 1, 1) := by decide +kernel
theorem dX11_end_5 : decode cX11_end 5 = .ok (.aload_n 0, 1) := by decide +kernel
theorem dX11_end_6 : decode cX11_end 6 = .ok (.getfield 10, 3) := by decide +kernel
theorem dX11_end_9 : decode cX11_end 9 = .ok (.getfield 41, 3) := by decide +kernel
theorem dX11_end_12 : decode cX11_end 12 = .ok (.if_icmp .le 13, 3) := by decide +kernel
theorem dX11_end_15 : decode cX11_end 15 = .ok (.new 56, 3) := by decide +kernel
theorem dX11_end_18 : decode cX11_end 18 = .ok (.dup, 1) := by decide +kernel
theorem dX11_end_19 : decode cX11_end 19 = .ok (.ldc 58, 2) := by decide +kernel
theorem dX11_end_21 : decode cX11_end 21 = .ok (.invokespecial 60, 3) := by decide +kernel
theorem dX11_end_24 : decode cX11_end 24 = .ok (.athrow, 1) := by decide +kernel
theorem dX11_end_25 : decode cX11_end 25 = .ok (.aload_n 0, 1) := by decide +kernel
theorem dX11_end_26 : decode cX11_end 26 = .ok (.getfield 10, 3) := by decide +kernel
theorem dX11_end_29 : decode cX11_end 29 = .ok (.iload_n 1, 1) := by decide +kernel
theorem dX11_end_30 : decode cX11_end 30 = .ok (.putfield 41, 3) := by decide +kernel
theorem dX11_end_33 : decode cX11_end 33 = .ok (.return_, 1) := by decide +kernel
theorem dX11_load_0 : decode cX11_load 0 = .ok (.iload_n 1, 1) := by decide +kernel
theorem dX11_load_1 : decode cX11_load 1 = .ok (.ifCond .lt 8, 3) := by decide +kernel
theorem dX11_load_4 : decode cX11_load 4 = .ok (.iload_n 1, 1) := by decide +kernel
theorem dX11_load_5 : decode cX11_load 5 = .ok (.iconst 3, 1) := by decide +kernel
theorem dX11_load_6 : decode cX11_load 6 = .ok (.if_icmp .lt 13, 3) := by decide +kernel
theorem dX11_load_9 : decode cX11_load 9 = .ok (.new 61, 3) := by decide +kernel
theorem dX11_load_12 : decode cX11_load 12 = .ok (.dup, 1) := by decide +kernel
theorem dX11_load_13 : decode cX11_load 13 = .ok (.ldc 63, 2) := by decide +kernel
theorem dX11_load_15 : decode cX11_load 15 = .ok (.invokespecial 65, 3) := by decide +kernel
theorem dX11_load_18 : decode cX11_load 18 = .ok (.athrow, 1) := by decide +kernel
theorem dX11_load_19 : decode cX11_load 19 = .ok (.aload_n 0, 1) := by decide +kernel
theorem dX11_load_20 : decode cX11_load 20 = .ok (.getfield 28, 3) := by decide +kernel
theorem dX11_load_23 : decode cX11_load 23 = .ok (.invokevirtual 66, 3) := by decide +kernel
theorem dX11_load_26 : decode cX11_load 26 = .ok (.astore_n 2, 1) := by decide +kernel
theorem dX11_load_27 : decode cX11_load 27 = .ok (.aload_n 0, 1) := by decide +kernel
theorem dX11_load_28 : decode cX11_load 28 = .ok (.getfield 28, 3) := by decide +kernel
theorem dX11_load_31 : decode cX11_load 31 = .ok (.invokevirtual 70, 3) := by decide +kernel
theorem dX11_load_34 : decode cX11_load 34 = .ok (.astore_n 3, 1) := by decide +kernel
theorem dX11_load_35 : decode cX11_load 35 = .ok (.aload_n 2, 1) := by decide +kernel
theorem dX11_load_36 : decode cX11_load 36 = .ok (.ifnull 7, 3) := by decide +kernel
theorem dX11_load_39 : decode cX11_load 39 = .ok (.aload_n 3, 1) := by decide +kernel
theorem dX11_load_40 : decode cX11_load 40 = .ok (.ifnonnull 13, 3) := by decide +kernel
theorem dX11_load_43 : decode cX11_load 43 = .ok (.new 45, 3) := by decide +kernel
theorem dX11_load_46 : decode cX11_load 46 = .ok (.dup, 1) := by decide +kernel
theorem dX11_load_47 : decode cX11_load 47 = .ok (.ldc 74, 2) := by decide +kernel
theorem dX11_load_49 : decode cX11_load 49 = .ok (.invokespecial 49, 3) := by decide +kernel
theorem dX11_load_52 : decode cX11_load 52 = .ok (.athrow, 1) := by decide +kernel
theorem dX11_load_53 : decode cX11_load 53 = .ok (.aload_n 0, 1) := by decide +kernel
theorem dX11_load_54 : decode cX11_load 54 = .ok (.getfield 21, 3) := by decide +kernel
theorem dX11_load_57 : decode cX11_load 57 = .ok (.aload_n 3, 1) := by decide +kernel
theorem dX11_load_58 : decode cX11_load 58 = .ok (.invokevirtual 76, 3) := by decide +kernel
theorem dX11_load_61 : decode cX11_load 61 = .ok (.aload_n 0, 1) := by decide +kernel
theorem dX11_load_62 : decode cX11_load 62 = .ok (.getfield 10, 3) := by decide +kernel
theorem dX11_load_65 : decode cX11_load 65 = .ok (.iconst 0, 1) := by decide +kernel
theorem dX11_load_66 : decode cX11_load 66 = .ok (.putfield 41, 3) := by decide +kernel
theorem dX11_load_69 : decode cX11_load 69 = .ok (.aload_n 0, 1) := by decide +kernel
theorem dX11_load_70 : decode cX11_load 70 = .ok (.getfield 21, 3) := by decide +kernel
theorem dX11_load_73 : decode cX11_load 73 = .ok (.getfield 80, 3) := by decide +kernel
theorem dX11_load_76 : decode cX11_load 76 = .ok (.ifCond .eq 13, 3) := by decide +kernel
theorem dX11_load_79 : decode cX11_load 79 = .ok (.iconst (-1), 1) := by decide +kernel
theorem dX11_load_80 : decode cX11_load 80 = .ok (.aload_n 0, 1) := by decide +kernel
theorem dX11_load_81 : decode cX11_load 81 = .ok (.getfield 21, 3) := by decide +kernel
theorem dX11_load_84 : decode cX11_load 84 = .ok (.getfield 83, 3) := by decide +kernel
theorem dX11_load_87 : decode cX11_load 87 = .ok (.isub, 1) := by decide +kernel
theorem dX11_load_88 : decode cX11_load 88 = .ok (.ireturn, 1) := by decide +kernel
theorem dX11_load_89 : decode cX11_load 89 = .ok (.aload_n 0, 1) := by decide +kernel
theorem dX11_load_90 : decode cX11_load 90 = .ok (.getfield 28, 3) := by decide +kernel
theorem dX11_load_93 : decode cX11_load 93 = .ok (.aload_n 2, 1) := by decide +kernel
theorem dX11_load_94 : decode cX11_load 94 = .ok (.aload_n 3, 1) := by decide +kernel
theorem dX11_load_95 : decode cX11_load 95 = .ok (.iload_n 1, 1) := by decide +kernel
theorem dX11_load_96 : decode cX11_load 96 = .ok (.invokevirtual 86, 3) := by decide +kernel
theorem dX11_load_99 : decode cX11_load 99 = .ok (.aload_n 2, 1) := by decide +kernel
theorem dX11_load_100 : decode cX11_load 100 = .ok (.getfield 90, 3) := by decide +kernel
theorem dX11_load_103 : decode cX11_load 103 = .ok (.ireturn, 1) := by decide +kernel
theorem dX11_fault_0 : decode cX11_fault 0 = .ok (.aload_n 0, 1) := by decide +kernel
theorem dX11_fault_1 : decode cX11_fault 1 = .ok (.getfield 21, 3) := by decide +kernel
theorem dX11_fault_4 : decode cX11_fault 4 = .ok (.getfield 80, 3) := by decide +kernel
theorem dX11_fault_7 : decode cX11_fault 7 = .ok (.ireturn, 1) := by decide +kernel
theorem dX11_tick_0 : decode cX11_tick 0 = .ok (.aload_n 0, 1) := by decide +kernel
theorem dX11_tick_1 : decode cX11_tick 1 = .ok (.getfield 37, 3) := by decide +kernel
theorem dX11_tick_4 : decode cX11_tick 4 = .ok (.invokevirtual 95, 3) := by decide +kernel
theorem dX11_tick_7 : decode cX11_tick 7 = .ok (.ireturn, 1) := by decide +kernel
theorem dX11_run_0 : decode cX11_run 0 = .ok (.iload_n 1, 1) := by decide +kernel
theorem dX11_run_1 : decode cX11_run 1 = .ok (.ifCond .lt 10, 3) := by decide +kernel
theorem dX11_run_4 : decode cX11_run 4 = .ok (.iload_n 1, 1) := by decide +kernel
theorem dX11_run_5 : decode cX11_run 5 = .ok (.sipush 5000, 3) := by decide +kernel
theorem dX11_run_8 : decode cX11_run 8 = .ok (.if_icmp .le 13, 3) := by decide +kernel
theorem dX11_run_11 : decode cX11_run 11 = .ok (.new 56, 3) := by decide +kernel
theorem dX11_run_14 : decode cX11_run 14 = .ok (.dup, 1) := by decide +kernel
theorem dX11_run_15 : decode cX11_run 15 = .ok (.ldc 99, 2) := by decide +kernel
theorem dX11_run_17 : decode cX11_run 17 = .ok (.invokespecial 60, 3) := by decide +kernel
theorem dX11_run_20 : decode cX11_run 20 = .ok (.athrow, 1) := by decide +kernel
theorem dX11_run_21 : decode cX11_run 21 = .ok (.iconst 0, 1) := by decide +kernel
theorem dX11_run_22 : decode cX11_run 22 = .ok (.istore_n 2, 1) := by decide +kernel
theorem dX11_run_23 : decode cX11_run 23 = .ok (.iconst 0, 1) := by decide +kernel
theorem dX11_run_24 : decode cX11_run 24 = .ok (.istore_n 3, 1) := by decide +kernel
theorem dX11_run_25 : decode cX11_run 25 = .ok (.iload_n 3, 1) := by decide +kernel
theorem dX11_run_26 : decode cX11_run 26 = .ok (.iload_n 1, 1) := by decide +kernel
theorem dX11_run_27 : decode cX11_run 27 = .ok (.if_icmp .ge 23, 3) := by decide +kernel
theorem dX11_run_30 : decode cX11_run 30 = .ok (.aload_n 0, 1) := by decide +kernel
theorem dX11_run_31 : decode cX11_run 31 = .ok (.getfield 37, 3) := by decide +kernel
theorem dX11_run_34 : decode cX11_run 34 = .ok (.invokevirtual 95, 3) := by decide +kernel
theorem dX11_run_37 : decode cX11_run 37 = .ok (.iconst (-1), 1) := by decide +kernel
theorem dX11_run_38 : decode cX11_run 38 = .ok (.if_icmp .eq 6, 3) := by decide +kernel
theorem dX11_run_41 : decode cX11_run 41 = .ok (.iinc 2 1, 3) := by decide +kernel
theorem dX11_run_44 : decode cX11_run 44 = .ok (.iinc 3 1, 3) := by decide +kernel
theorem dX11_run_47 : decode cX11_run 47 = .ok (.goto (-22), 3) := by decide +kernel
theorem dX11_run_50 : decode cX11_run 50 = .ok (.iload_n 2, 1) := by decide +kernel
theorem dX11_run_51 : decode cX11_run 51 = .ok (.ireturn, 1) := by decide +kernel
theorem dX11_quantum_0 : decode cX11_quantum 0 = .ok (.iload_n 1, 1) := by decide +kernel
theorem dX11_quantum_1 : decode cX11_quantum 1 = .ok (.iconst 1, 1) := by decide +kernel
theorem dX11_quantum_2 : decode cX11_quantum 2 = .ok (.if_icmp .lt 9, 3) := by decide +kernel
theorem dX11_quantum_5 : decode cX11_quantum 5 = .ok (.iload_n 1, 1) := by decide +kernel
theorem dX11_quantum_6 : decode cX11_quantum 6 = .ok (.bipush 100, 2) := by decide +kernel
theorem dX11_quantum_8 : decode cX11_quantum 8 = .ok (.if_icmp .le 13, 3) := by decide +kernel
theorem dX11_quantum_11 : decode cX11_quantum 11 = .ok (.new 56, 3) := by decide +kernel
theorem dX11_quantum_14 : decode cX11_quantum 14 = .ok (.dup, 1) := by decide +kernel
theorem dX11_quantum_15 : decode cX11_quantum 15 = .ok (.ldc 101, 2) := by decide +kernel
theorem dX11_quantum_17 : decode cX11_quantum 17 = .ok (.invokespecial 60, 3) := by decide +kernel
theorem dX11_quantum_20 : decode cX11_quantum 20 = .ok (.athrow, 1) := by decide +kernel
theorem dX11_quantum_21 : decode cX11_quantum 21 = .ok (.aload_n 0, 1) := by decide +kernel
theorem dX11_quantum_22 : decode cX11_quantum 22 = .ok (.getfield 37, 3) := by decide +kernel
theorem dX11_quantum_25 : decode cX11_quantum 25 = .ok (.getfield 103, 3) := by decide +kernel
theorem dX11_quantum_28 : decode cX11_quantum 28 = .ok (.istore_n 2, 1) := by decide +kernel
theorem dX11_quantum_29 : decode cX11_quantum 29 = .ok (.aload_n 0, 1) := by decide +kernel
theorem dX11_quantum_30 : decode cX11_quantum 30 = .ok (.getfield 37, 3) := by decide +kernel
theorem dX11_quantum_33 : decode cX11_quantum 33 = .ok (.iload_n 1, 1) := by decide +kernel
theorem dX11_quantum_34 : decode cX11_quantum 34 = .ok (.putfield 103, 3) := by decide +kernel
theorem dX11_quantum_37 : decode cX11_quantum 37 = .ok (.iload_n 2, 1) := by decide +kernel
theorem dX11_quantum_38 : decode cX11_quantum 38 = .ok (.ireturn, 1) := by decide +kernel
theorem dX11_kill_0 : decode cX11_kill 0 = .ok (.aload_n 0, 1) := by decide +kernel
theorem dX11_kill_1 : decode cX11_kill 1 = .ok (.getfield 28, 3) := by decide +kernel
theorem dX11_kill_4 : decode cX11_kill 4 = .ok (.iload_n 1, 1) := by decide +kernel
theorem dX11_kill_5 : decode cX11_kill 5 = .ok (.invokevirtual 106, 3) := by decide +kernel
theorem dX11_kill_8 : decode cX11_kill 8 = .ok (.astore_n 2, 1) := by decide +kernel
theorem dX11_kill_9 : decode cX11_kill 9 = .ok (.aload_n 2, 1) := by decide +kernel
theorem dX11_kill_10 : decode cX11_kill 10 = .ok (.ifnonnull 13, 3) := by decide +kernel
theorem dX11_kill_13 : decode cX11_kill 13 = .ok (.new 61, 3) := by decide +kernel
theorem dX11_kill_16 : decode cX11_kill 16 = .ok (.dup, 1) := by decide +kernel
theorem dX11_kill_17 : decode cX11_kill 17 = .ok (.ldc 110, 2) := by decide +kernel
theorem dX11_kill_19 : decode cX11_kill 19 = .ok (.invokespecial 65, 3) := by decide +kernel
theorem dX11_kill_22 : decode cX11_kill 22 = .ok (.athrow, 1) := by decide +kernel
theorem dX11_kill_23 : decode cX11_kill 23 = .ok (.aload_n 2, 1) := by decide +kernel
theorem dX11_kill_24 : decode cX11_kill 24 = .ok (.invokevirtual 112, 3) := by decide +kernel
theorem dX11_kill_27 : decode cX11_kill 27 = .ok (.ifCond .ne 5, 3) := by decide +kernel
theorem dX11_kill_30 : decode cX11_kill 30 = .ok (.iconst 0, 1) := by decide +kernel
theorem dX11_kill_31 : decode cX11_kill 31 = .ok (.ireturn, 1) := by decide +kernel
theorem dX11_kill_32 : decode cX11_kill 32 = .ok (.aload_n 0, 1) := by decide +kernel
theorem dX11_kill_33 : decode cX11_kill 33 = .ok (.getfield 28, 3) := by decide +kernel
theorem dX11_kill_36 : decode cX11_kill 36 = .ok (.aload_n 2, 1) := by decide +kernel
theorem dX11_kill_37 : decode cX11_kill 37 = .ok (.iconst (-1), 1) := by decide +kernel
theorem dX11_kill_38 : decode cX11_kill 38 = .ok (.invokevirtual 116, 3) := by decide +kernel
theorem dX11_kill_41 : decode cX11_kill 41 = .ok (.iconst 1, 1) := by decide +kernel
theorem dX11_kill_42 : decode cX11_kill 42 = .ok (.ireturn, 1) := by decide +kernel
theorem dX11_reap_0 : decode cX11_reap 0 = .ok (.aload_n 0, 1) := by decide +kernel
theorem dX11_reap_1 : decode cX11_reap 1 = .ok (.getfield 28, 3) := by decide +kernel
theorem dX11_reap_4 : decode cX11_reap 4 = .ok (.iload_n 1, 1) := by decide +kernel
theorem dX11_reap_5 : decode cX11_reap 5 = .ok (.invokevirtual 106, 3) := by decide +kernel
theorem dX11_reap_8 : decode cX11_reap 8 = .ok (.astore_n 2, 1) := by decide +kernel
theorem dX11_reap_9 : decode cX11_reap 9 = .ok (.aload_n 2, 1) := by decide +kernel
theorem dX11_reap_10 : decode cX11_reap 10 = .ok (.ifnonnull 13, 3) := by decide +kernel
theorem dX11_reap_13 : decode cX11_reap 13 = .ok (.new 61, 3) := by decide +kernel
theorem dX11_reap_16 : decode cX11_reap 16 = .ok (.dup, 1) := by decide +kernel
theorem dX11_reap_17 : decode cX11_reap 17 = .ok (.ldc 110, 2) := by decide +kernel
theorem dX11_reap_19 : decode cX11_reap 19 = .ok (.invokespecial 65, 3) := by decide +kernel
theorem dX11_reap_22 : decode cX11_reap 22 = .ok (.athrow, 1) := by decide +kernel
theorem dX11_reap_23 : decode cX11_reap 23 = .ok (.aload_n 2, 1) := by decide +kernel
theorem dX11_reap_24 : decode cX11_reap 24 = .ok (.getfield 120, 3) := by decide +kernel
theorem dX11_reap_27 : decode cX11_reap 27 = .ok (.bipush 7, 2) := by decide +kernel
theorem dX11_reap_29 : decode cX11_reap 29 = .ok (.if_icmp .ne 10, 3) := by decide +kernel
theorem dX11_reap_32 : decode cX11_reap 32 = .ok (.aload_n 2, 1) := by decide +kernel
theorem dX11_reap_33 : decode cX11_reap 33 = .ok (.getfield 123, 3) := by decide +kernel
theorem dX11_reap_36 : decode cX11_reap 36 = .ok (.ifCond .eq 13, 3) := by decide +kernel
theorem dX11_reap_39 : decode cX11_reap 39 = .ok (.new 126, 3) := by decide +kernel
theorem dX11_reap_42 : decode cX11_reap 42 = .ok (.dup, 1) := by decide +kernel
theorem dX11_reap_43 : decode cX11_reap 43 = .ok (.ldc 128, 2) := by decide +kernel
theorem dX11_reap_45 : decode cX11_reap 45 = .ok (.invokespecial 130, 3) := by decide +kernel
theorem dX11_reap_48 : decode cX11_reap 48 = .ok (.athrow, 1) := by decide +kernel
theorem dX11_reap_49 : decode cX11_reap 49 = .ok (.aload_n 2, 1) := by decide +kernel
theorem dX11_reap_50 : decode cX11_reap 50 = .ok (.getfield 131, 3) := by decide +kernel
theorem dX11_reap_53 : decode cX11_reap 53 = .ok (.istore_n 3, 1) := by decide +kernel
theorem dX11_reap_54 : decode cX11_reap 54 = .ok (.aload_n 2, 1) := by decide +kernel
theorem dX11_reap_55 : decode cX11_reap 55 = .ok (.invokevirtual 134, 3) := by decide +kernel
theorem dX11_reap_58 : decode cX11_reap 58 = .ok (.iload_n 3, 1) := by decide +kernel
theorem dX11_reap_59 : decode cX11_reap 59 = .ok (.ireturn, 1) := by decide +kernel
theorem dX11_key_0 : decode cX11_key 0 = .ok (.aload_n 0, 1) := by decide +kernel
theorem dX11_key_1 : decode cX11_key 1 = .ok (.getfield 28, 3) := by decide +kernel
theorem dX11_key_4 : decode cX11_key 4 = .ok (.iload_n 1, 1) := by decide +kernel
theorem dX11_key_5 : decode cX11_key 5 = .ok (.invokevirtual 106, 3) := by decide +kernel
theorem dX11_key_8 : decode cX11_key 8 = .ok (.astore_n 3, 1) := by decide +kernel
theorem dX11_key_9 : decode cX11_key 9 = .ok (.aload_n 3, 1) := by decide +kernel
theorem dX11_key_10 : decode cX11_key 10 = .ok (.ifnonnull 13, 3) := by decide +kernel
theorem dX11_key_13 : decode cX11_key 13 = .ok (.new 61, 3) := by decide +kernel
theorem dX11_key_16 : decode cX11_key 16 = .ok (.dup, 1) := by decide +kernel
theorem dX11_key_17 : decode cX11_key 17 = .ok (.ldc 110, 2) := by decide +kernel
theorem dX11_key_19 : decode cX11_key 19 = .ok (.invokespecial 65, 3) := by decide +kernel
theorem dX11_key_22 : decode cX11_key 22 = .ok (.athrow, 1) := by decide +kernel
theorem dX11_key_23 : decode cX11_key 23 = .ok (.aload_n 3, 1) := by decide +kernel
theorem dX11_key_24 : decode cX11_key 24 = .ok (.invokevirtual 112, 3) := by decide +kernel
theorem dX11_key_27 : decode cX11_key 27 = .ok (.ifCond .ne 13, 3) := by decide +kernel
theorem dX11_key_30 : decode cX11_key 30 = .ok (.new 126, 3) := by decide +kernel
theorem dX11_key_33 : decode cX11_key 33 = .ok (.dup, 1) := by decide +kernel
theorem dX11_key_34 : decode cX11_key 34 = .ok (.ldc 137, 2) := by decide +kernel
theorem dX11_key_36 : decode cX11_key 36 = .ok (.invokespecial 130, 3) := by decide +kernel
theorem dX11_key_39 : decode cX11_key 39 = .ok (.athrow, 1) := by decide +kernel
theorem dX11_key_40 : decode cX11_key 40 = .ok (.aload_n 3, 1) := by decide +kernel
theorem dX11_key_41 : decode cX11_key 41 = .ok (.getfield 139, 3) := by decide +kernel
theorem dX11_key_44 : decode cX11_key 44 = .ok (.iload_n 2, 1) := by decide +kernel
theorem dX11_key_45 : decode cX11_key 45 = .ok (.iconst 0, 1) := by decide +kernel
theorem dX11_key_46 : decode cX11_key 46 = .ok (.invokevirtual 143, 3) := by decide +kernel
theorem dX11_key_49 : decode cX11_key 49 = .ok (.ifCond .ne 5, 3) := by decide +kernel
theorem dX11_key_52 : decode cX11_key 52 = .ok (.iconst 0, 1) := by decide +kernel
theorem dX11_key_53 : decode cX11_key 53 = .ok (.ireturn, 1) := by decide +kernel
theorem dX11_key_54 : decode cX11_key 54 = .ok (.aload_n 3, 1) := by decide +kernel
theorem dX11_key_55 : decode cX11_key 55 = .ok (.getfield 120, 3) := by decide +kernel
theorem dX11_key_58 : decode cX11_key 58 = .ok (.iconst 4, 1) := by decide +kernel
theorem dX11_key_59 : decode cX11_key 59 = .ok (.if_icmp .ne 11, 3) := by decide +kernel
theorem dX11_key_62 : decode cX11_key 62 = .ok (.aload_n 0, 1) := by decide +kernel
theorem dX11_key_63 : decode cX11_key 63 = .ok (.getfield 28, 3) := by decide +kernel
theorem dX11_key_66 : decode cX11_key 66 = .ok (.aload_n 3, 1) := by decide +kernel
theorem dX11_key_67 : decode cX11_key 67 = .ok (.invokevirtual 149, 3) := by decide +kernel
theorem dX11_key_70 : decode cX11_key 70 = .ok (.iconst 1, 1) := by decide +kernel
theorem dX11_key_71 : decode cX11_key 71 = .ok (.ireturn, 1) := by decide +kernel
theorem dX11_post_0 : decode cX11_post 0 = .ok (.aload_n 0, 1) := by decide +kernel
theorem dX11_post_1 : decode cX11_post 1 = .ok (.getfield 28, 3) := by decide +kernel
theorem dX11_post_4 : decode cX11_post 4 = .ok (.iload_n 1, 1) := by decide +kernel
theorem dX11_post_5 : decode cX11_post 5 = .ok (.invokevirtual 106, 3) := by decide +kernel
theorem dX11_post_8 : decode cX11_post 8 = .ok (.astore_n 3, 1) := by decide +kernel
theorem dX11_post_9 : decode cX11_post 9 = .ok (.aload_n 3, 1) := by decide +kernel
theorem dX11_post_10 : decode cX11_post 10 = .ok (.ifnonnull 13, 3) := by decide +kernel
theorem dX11_post_13 : decode cX11_post 13 = .ok (.new 61, 3) := by decide +kernel
theorem dX11_post_16 : decode cX11_post 16 = .ok (.dup, 1) := by decide +kernel
theorem dX11_post_17 : decode cX11_post 17 = .ok (.ldc 110, 2) := by decide +kernel
theorem dX11_post_19 : decode cX11_post 19 = .ok (.invokespecial 65, 3) := by decide +kernel
theorem dX11_post_22 : decode cX11_post 22 = .ok (.athrow, 1) := by decide +kernel
theorem dX11_post_23 : decode cX11_post 23 = .ok (.aload_n 3, 1) := by decide +kernel
theorem dX11_post_24 : decode cX11_post 24 = .ok (.invokevirtual 112, 3) := by decide +kernel
theorem dX11_post_27 : decode cX11_post 27 = .ok (.ifCond .ne 13, 3) := by decide +kernel
theorem dX11_post_30 : decode cX11_post 30 = .ok (.new 126, 3) := by decide +kernel
theorem dX11_post_33 : decode cX11_post 33 = .ok (.dup, 1) := by decide +kernel
theorem dX11_post_34 : decode cX11_post 34 = .ok (.ldc 137, 2) := by decide +kernel
theorem dX11_post_36 : decode cX11_post 36 = .ok (.invokespecial 130, 3) := by decide +kernel
theorem dX11_post_39 : decode cX11_post 39 = .ok (.athrow, 1) := by decide +kernel
theorem dX11_post_40 : decode cX11_post 40 = .ok (.aload_n 0, 1) := by decide +kernel
theorem dX11_post_41 : decode cX11_post 41 = .ok (.getfield 28, 3) := by decide +kernel
theorem dX11_post_44 : decode cX11_post 44 = .ok (.aload_n 3, 1) := by decide +kernel
theorem dX11_post_45 : decode cX11_post 45 = .ok (.iload_n 2, 1) := by decide +kernel
theorem dX11_post_46 : decode cX11_post 46 = .ok (.iconst 0, 1) := by decide +kernel
theorem dX11_post_47 : decode cX11_post 47 = .ok (.invokevirtual 153, 3) := by decide +kernel
theorem dX11_post_50 : decode cX11_post 50 = .ok (.ireturn, 1) := by decide +kernel
theorem dX11_state_0 : decode cX11_state 0 = .ok (.aload_n 0, 1) := by decide +kernel
theorem dX11_state_1 : decode cX11_state 1 = .ok (.getfield 28, 3) := by decide +kernel
theorem dX11_state_4 : decode cX11_state 4 = .ok (.iload_n 1, 1) := by decide +kernel
theorem dX11_state_5 : decode cX11_state 5 = .ok (.invokevirtual 106, 3) := by decide +kernel
theorem dX11_state_8 : decode cX11_state 8 = .ok (.astore_n 3, 1) := by decide +kernel
theorem dX11_state_9 : decode cX11_state 9 = .ok (.aload_n 3, 1) := by decide +kernel
theorem dX11_state_10 : decode cX11_state 10 = .ok (.ifnull 13, 3) := by decide +kernel
theorem dX11_state_13 : decode cX11_state 13 = .ok (.iload_n 2, 1) := by decide +kernel
theorem dX11_state_14 : decode cX11_state 14 = .ok (.ifCond .lt 9, 3) := by decide +kernel
theorem dX11_state_17 : decode cX11_state 17 = .ok (.iload_n 2, 1) := by decide +kernel
theorem dX11_state_18 : decode cX11_state 18 = .ok (.bipush 12, 2) := by decide +kernel
theorem dX11_state_20 : decode cX11_state 20 = .ok (.if_icmp .le 13, 3) := by decide +kernel
theorem dX11_state_23 : decode cX11_state 23 = .ok (.new 61, 3) := by decide +kernel
theorem dX11_state_26 : decode cX11_state 26 = .ok (.dup, 1) := by decide +kernel
theorem dX11_state_27 : decode cX11_state 27 = .ok (.ldc 157, 2) := by decide +kernel
theorem dX11_state_29 : decode cX11_state 29 = .ok (.invokespecial 65, 3) := by decide +kernel
theorem dX11_state_32 : decode cX11_state 32 = .ok (.athrow, 1) := by decide +kernel
theorem dX11_state_33 : decode cX11_state 33 = .ok (.iload_n 2, 1) := by decide +kernel
theorem dX11_state_34 : decode cX11_state 34 = .ok (.tableswitch 135 0 11 #[62, 67, 72, 77, 82, 87, 92, 97, 105, 113, 125, 130], 62) := by decide +kernel
theorem dX11_state_96 : decode cX11_state 96 = .ok (.aload_n 3, 1) := by decide +kernel
theorem dX11_state_97 : decode cX11_state 97 = .ok (.getfield 120, 3) := by decide +kernel
theorem dX11_state_100 : decode cX11_state 100 = .ok (.ireturn, 1) := by decide +kernel
theorem dX11_state_101 : decode cX11_state 101 = .ok (.aload_n 3, 1) := by decide +kernel
theorem dX11_state_102 : decode cX11_state 102 = .ok (.getfield 131, 3) := by decide +kernel
theorem dX11_state_105 : decode cX11_state 105 = .ok (.ireturn, 1) := by decide +kernel
theorem dX11_state_106 : decode cX11_state 106 = .ok (.aload_n 3, 1) := by decide +kernel
theorem dX11_state_107 : decode cX11_state 107 = .ok (.getfield 159, 3) := by decide +kernel
theorem dX11_state_110 : decode cX11_state 110 = .ok (.ireturn, 1) := by decide +kernel
theorem dX11_state_111 : decode cX11_state 111 = .ok (.aload_n 3, 1) := by decide +kernel
theorem dX11_state_112 : decode cX11_state 112 = .ok (.getfield 123, 3) := by decide +kernel
theorem dX11_state_115 : decode cX11_state 115 = .ok (.ireturn, 1) := by decide +kernel
theorem dX11_state_116 : decode cX11_state 116 = .ok (.aload_n 3, 1) := by decide +kernel
theorem dX11_state_117 : decode cX11_state 117 = .ok (.getfield 162, 3) := by decide +kernel
theorem dX11_state_120 : decode cX11_state 120 = .ok (.ireturn, 1) := by decide +kernel
theorem dX11_state_121 : decode cX11_state 121 = .ok (.aload_n 3, 1) := by decide +kernel
theorem dX11_state_122 : decode cX11_state 122 = .ok (.getfield 165, 3) := by decide +kernel
theorem dX11_state_125 : decode cX11_state 125 = .ok (.ireturn, 1) := by decide +kernel
theorem dX11_state_126 : decode cX11_state 126 = .ok (.aload_n 3, 1) := by decide +kernel
theorem dX11_state_127 : decode cX11_state 127 = .ok (.getfield 168, 3) := by decide +kernel
theorem dX11_state_130 : decode cX11_state 130 = .ok (.ireturn, 1) := by decide +kernel
theorem dX11_state_131 : decode cX11_state 131 = .ok (.aload_n 3, 1) := by decide +kernel
theorem dX11_state_132 : decode cX11_state 132 = .ok (.getfield 171, 3) := by decide +kernel
theorem dX11_state_135 : decode cX11_state 135 = .ok (.getfield 174, 3) := by decide +kernel
theorem dX11_state_138 : decode cX11_state 138 = .ok (.ireturn, 1) := by decide +kernel
theorem dX11_state_139 : decode cX11_state 139 = .ok (.aload_n 3, 1) := by decide +kernel
theorem dX11_state_140 : decode cX11_state 140 = .ok (.getfield 139, 3) := by decide +kernel
theorem dX11_state_143 : decode cX11_state 143 = .ok (.getfield 174, 3) := by decide +kernel
theorem dX11_state_146 : decode cX11_state 146 = .ok (.ireturn, 1) := by decide +kernel
theorem dX11_state_147 : decode cX11_state 147 = .ok (.aload_n 0, 1) := by decide +kernel
theorem dX11_state_148 : decode cX11_state 148 = .ok (.getfield 28, 3) := by decide +kernel
theorem dX11_state_151 : decode cX11_state 151 = .ok (.getfield 177, 3) := by decide +kernel
theorem dX11_state_154 : decode cX11_state 154 = .ok (.iload_n 1, 1) := by decide +kernel
theorem dX11_state_155 : decode cX11_state 155 = .ok (.invokevirtual 181, 3) := by decide +kernel
theorem dX11_state_158 : decode cX11_state 158 = .ok (.ireturn, 1) := by decide +kernel
theorem dX11_state_159 : decode cX11_state 159 = .ok (.aload_n 3, 1) := by decide +kernel
theorem dX11_state_160 : decode cX11_state 160 = .ok (.getfield 187, 3) := by decide +kernel
theorem dX11_state_163 : decode cX11_state 163 = .ok (.ireturn, 1) := by decide +kernel
theorem dX11_state_164 : decode cX11_state 164 = .ok (.aload_n 3, 1) := by decide +kernel
theorem dX11_state_165 : decode cX11_state 165 = .ok (.getfield 190, 3) := by decide +kernel
theorem dX11_state_168 : decode cX11_state 168 = .ok (.ireturn, 1) := by decide +kernel
theorem dX11_state_169 : decode cX11_state 169 = .ok (.aload_n 3, 1) := by decide +kernel
theorem dX11_state_170 : decode cX11_state 170 = .ok (.getfield 193, 3) := by decide +kernel
theorem dX11_state_173 : decode cX11_state 173 = .ok (.ireturn, 1) := by decide +kernel
theorem dX11_stack_0 : decode cX11_stack 0 = .ok (.aload_n 0, 1) := by decide +kernel
theorem dX11_stack_1 : decode cX11_stack 1 = .ok (.getfield 28, 3) := by decide +kernel
theorem dX11_stack_4 : decode cX11_stack 4 = .ok (.iload_n 1, 1) := by decide +kernel
theorem dX11_stack_5 : decode cX11_stack 5 = .ok (.invokevirtual 106, 3) := by decide +kernel
theorem dX11_stack_8 : decode cX11_stack 8 = .ok (.astore_n 3, 1) := by decide +kernel
theorem dX11_stack_9 : decode cX11_stack 9 = .ok (.aload_n 3, 1) := by decide +kernel
theorem dX11_stack_10 : decode cX11_stack 10 = .ok (.ifnull 15, 3) := by decide +kernel
theorem dX11_stack_13 : decode cX11_stack 13 = .ok (.iload_n 2, 1) := by decide +kernel
theorem dX11_stack_14 : decode cX11_stack 14 = .ok (.ifCond .lt 11, 3) := by decide +kernel
theorem dX11_stack_17 : decode cX11_stack 17 = .ok (.iload_n 2, 1) := by decide +kernel
theorem dX11_stack_18 : decode cX11_stack 18 = .ok (.aload_n 3, 1) := by decide +kernel
theorem dX11_stack_19 : decode cX11_stack 19 = .ok (.getfield 165, 3) := by decide +kernel
theorem dX11_stack_22 : decode cX11_stack 22 = .ok (.if_icmp .lt 13, 3) := by decide +kernel
theorem dX11_stack_25 : decode cX11_stack 25 = .ok (.new 61, 3) := by decide +kernel
theorem dX11_stack_28 : decode cX11_stack 28 = .ok (.dup, 1) := by decide +kernel
theorem dX11_stack_29 : decode cX11_stack 29 = .ok (.ldc 196, 2) := by decide +kernel
theorem dX11_stack_31 : decode cX11_stack 31 = .ok (.invokespecial 65, 3) := by decide +kernel
theorem dX11_stack_34 : decode cX11_stack 34 = .ok (.athrow, 1) := by decide +kernel
theorem dX11_stack_35 : decode cX11_stack 35 = .ok (.aload_n 3, 1) := by decide +kernel
theorem dX11_stack_36 : decode cX11_stack 36 = .ok (.getfield 198, 3) := by decide +kernel
theorem dX11_stack_39 : decode cX11_stack 39 = .ok (.iload_n 2, 1) := by decide +kernel
theorem dX11_stack_40 : decode cX11_stack 40 = .ok (.iaload, 1) := by decide +kernel
theorem dX11_stack_41 : decode cX11_stack 41 = .ok (.ireturn, 1) := by decide +kernel
theorem dX11_message_0 : decode cX11_message 0 = .ok (.aload_n 0, 1) := by decide +kernel
theorem dX11_message_1 : decode cX11_message 1 = .ok (.getfield 28, 3) := by decide +kernel
theorem dX11_message_4 : decode cX11_message 4 = .ok (.iload_n 1, 1) := by decide +kernel
theorem dX11_message_5 : decode cX11_message 5 = .ok (.invokevirtual 106, 3) := by decide +kernel
theorem dX11_message_8 : decode cX11_message 8 = .ok (.astore 4, 2) := by decide +kernel
theorem dX11_message_10 : decode cX11_message 10 = .ok (.aload 4, 2) := by decide +kernel
theorem dX11_message_12 : decode cX11_message 12 = .ok (.ifnull 19, 3) := by decide +kernel
theorem dX11_message_15 : decode cX11_message 15 = .ok (.iload_n 2, 1) := by decide +kernel
theorem dX11_message_16 : decode cX11_message 16 = .ok (.ifCond .lt 15, 3) := by decide +kernel
theorem dX11_message_19 : decode cX11_message 19 = .ok (.iload_n 2, 1) := by decide +kernel
theorem dX11_message_20 : decode cX11_message 20 = .ok (.aload 4, 2) := by decide +kernel
theorem dX11_message_22 : decode cX11_message 22 = .ok (.getfield 171, 3) := by decide +kernel
theorem dX11_message_25 : decode cX11_message 25 = .ok (.getfield 174, 3) := by decide +kernel
theorem dX11_message_28 : decode cX11_message 28 = .ok (.if_icmp .lt 13, 3) := by decide +kernel
theorem dX11_message_31 : decode cX11_message 31 = .ok (.new 61, 3) := by decide +kernel
theorem dX11_message_34 : decode cX11_message 34 = .ok (.dup, 1) := by decide +kernel
theorem dX11_message_35 : decode cX11_message 35 = .ok (.ldc 202, 2) := by decide +kernel
theorem dX11_message_37 : decode cX11_message 37 = .ok (.invokespecial 65, 3) := by decide +kernel
theorem dX11_message_40 : decode cX11_message 40 = .ok (.athrow, 1) := by decide +kernel
theorem dX11_message_41 : decode cX11_message 41 = .ok (.iload_n 3, 1) := by decide +kernel
theorem dX11_message_42 : decode cX11_message 42 = .ok (.ifCond .eq 16, 3) := by decide +kernel
theorem dX11_message_45 : decode cX11_message 45 = .ok (.aload 4, 2) := by decide +kernel
theorem dX11_message_47 : decode cX11_message 47 = .ok (.getfield 171, 3) := by decide +kernel
theorem dX11_message_50 : decode cX11_message 50 = .ok (.getfield 204, 3) := by decide +kernel
theorem dX11_message_53 : decode cX11_message 53 = .ok (.iload_n 2, 1) := by decide +kernel
theorem dX11_message_54 : decode cX11_message 54 = .ok (.iaload, 1) := by decide +kernel
theorem dX11_message_55 : decode cX11_message 55 = .ok (.goto 13, 3) := by decide +kernel
theorem dX11_message_58 : decode cX11_message 58 = .ok (.aload 4, 2) := by decide +kernel
theorem dX11_message_60 : decode cX11_message 60 = .ok (.getfield 171, 3) := by decide +kernel
theorem dX11_message_63 : decode cX11_message 63 = .ok (.getfield 207, 3) := by decide +kernel
theorem dX11_message_66 : decode cX11_message 66 = .ok (.iload_n 2, 1) := by decide +kernel
theorem dX11_message_67 : decode cX11_message 67 = .ok (.iaload, 1) := by decide +kernel
theorem dX11_message_68 : decode cX11_message 68 = .ok (.ireturn, 1) := by decide +kernel
theorem dX11_ready_0 : decode cX11_ready 0 = .ok (.iload_n 1, 1) := by decide +kernel
theorem dX11_ready_1 : decode cX11_ready 1 = .ok (.ifCond .lt 28, 3) := by decide +kernel
theorem dX11_ready_4 : decode cX11_ready 4 = .ok (.iload_n 1, 1) := by decide +kernel
theorem dX11_ready_5 : decode cX11_ready 5 = .ok (.iconst 3, 1) := by decide +kernel
theorem dX11_ready_6 : decode cX11_ready 6 = .ok (.if_icmp .ge 23, 3) := by decide +kernel
theorem dX11_ready_9 : decode cX11_ready 9 = .ok (.iload_n 2, 1) := by decide +kernel
theorem dX11_ready_10 : decode cX11_ready 10 = .ok (.ifCond .lt 19, 3) := by decide +kernel
theorem dX11_ready_13 : decode cX11_ready 13 = .ok (.iload_n 2, 1) := by decide +kernel
theorem dX11_ready_14 : decode cX11_ready 14 = .ok (.aload_n 0, 1) := by decide +kernel
theorem dX11_ready_15 : decode cX11_ready 15 = .ok (.getfield 28, 3) := by decide +kernel
theorem dX11_ready_18 : decode cX11_ready 18 = .ok (.getfield 208, 3) := by decide +kernel
theorem dX11_ready_21 : decode cX11_ready 21 = .ok (.iload_n 1, 1) := by decide +kernel
theorem dX11_ready_22 : decode cX11_ready 22 = .ok (.aaload, 1) := by decide +kernel
theorem dX11_ready_23 : decode cX11_ready 23 = .ok (.getfield 212, 3) := by decide +kernel
theorem dX11_ready_26 : decode cX11_ready 26 = .ok (.if_icmp .lt 13, 3) := by decide +kernel
theorem dX11_ready_29 : decode cX11_ready 29 = .ok (.new 61, 3) := by decide +kernel
theorem dX11_ready_32 : decode cX11_ready 32 = .ok (.dup, 1) := by decide +kernel
theorem dX11_ready_33 : decode cX11_ready 33 = .ok (.ldc 215, 2) := by decide +kernel
theorem dX11_ready_35 : decode cX11_ready 35 = .ok (.invokespecial 65, 3) := by decide +kernel
theorem dX11_ready_38 : decode cX11_ready 38 = .ok (.athrow, 1) := by decide +kernel
theorem dX11_ready_39 : decode cX11_ready 39 = .ok (.aload_n 0, 1) := by decide +kernel
theorem dX11_ready_40 : decode cX11_ready 40 = .ok (.getfield 28, 3) := by decide +kernel
theorem dX11_ready_43 : decode cX11_ready 43 = .ok (.getfield 208, 3) := by decide +kernel
theorem dX11_ready_46 : decode cX11_ready 46 = .ok (.iload_n 1, 1) := by decide +kernel
theorem dX11_ready_47 : decode cX11_ready 47 = .ok (.aaload, 1) := by decide +kernel
theorem dX11_ready_48 : decode cX11_ready 48 = .ok (.getfield 217, 3) := by decide +kernel
theorem dX11_ready_51 : decode cX11_ready 51 = .ok (.iload_n 2, 1) := by decide +kernel
theorem dX11_ready_52 : decode cX11_ready 52 = .ok (.iaload, 1) := by decide +kernel
theorem dX11_ready_53 : decode cX11_ready 53 = .ok (.ireturn, 1) := by decide +kernel
theorem dX11_cell_0 : decode cX11_cell 0 = .ok (.iload_n 1, 1) := by decide +kernel
theorem dX11_cell_1 : decode cX11_cell 1 = .ok (.ifCond .lt 10, 3) := by decide +kernel
theorem dX11_cell_4 : decode cX11_cell 4 = .ok (.iload_n 1, 1) := by decide +kernel
theorem dX11_cell_5 : decode cX11_cell 5 = .ok (.sipush 1024, 3) := by decide +kernel
theorem dX11_cell_8 : decode cX11_cell 8 = .ok (.if_icmp .lt 13, 3) := by decide +kernel
theorem dX11_cell_11 : decode cX11_cell 11 = .ok (.new 61, 3) := by decide +kernel
theorem dX11_cell_14 : decode cX11_cell 14 = .ok (.dup, 1) := by decide +kernel
theorem dX11_cell_15 : decode cX11_cell 15 = .ok (.ldc 220, 2) := by decide +kernel
theorem dX11_cell_17 : decode cX11_cell 17 = .ok (.invokespecial 65, 3) := by decide +kernel
theorem dX11_cell_20 : decode cX11_cell 20 = .ok (.athrow, 1) := by decide +kernel
theorem dX11_cell_21 : decode cX11_cell 21 = .ok (.aload_n 0, 1) := by decide +kernel
theorem dX11_cell_22 : decode cX11_cell 22 = .ok (.getfield 28, 3) := by decide +kernel
theorem dX11_cell_25 : decode cX11_cell 25 = .ok (.getfield 177, 3) := by decide +kernel
theorem dX11_cell_28 : decode cX11_cell 28 = .ok (.getfield 222, 3) := by decide +kernel
theorem dX11_cell_31 : decode cX11_cell 31 = .ok (.iload_n 1, 1) := by decide +kernel
theorem dX11_cell_32 : decode cX11_cell 32 = .ok (.iaload, 1) := by decide +kernel
theorem dX11_cell_33 : decode cX11_cell 33 = .ok (.ireturn, 1) := by decide +kernel
theorem dX11_block_0 : decode cX11_block 0 = .ok (.aload_n 0, 1) := by decide +kernel
theorem dX11_block_1 : decode cX11_block 1 = .ok (.getfield 28, 3) := by decide +kernel
theorem dX11_block_4 : decode cX11_block 4 = .ok (.getfield 177, 3) := by decide +kernel
theorem dX11_block_7 : decode cX11_block 7 = .ok (.iload_n 1, 1) := by decide +kernel
theorem dX11_block_8 : decode cX11_block 8 = .ok (.invokevirtual 225, 3) := by decide +kernel
theorem dX11_block_11 : decode cX11_block 11 = .ok (.istore_n 3, 1) := by decide +kernel
theorem dX11_block_12 : decode cX11_block 12 = .ok (.iload_n 3, 1) := by decide +kernel
theorem dX11_block_13 : decode cX11_block 13 = .ok (.ifCond .lt 19, 3) := by decide +kernel
theorem dX11_block_16 : decode cX11_block 16 = .ok (.iload_n 3, 1) := by decide +kernel
theorem dX11_block_17 : decode cX11_block 17 = .ok (.sipush 1024, 3) := by decide +kernel
theorem dX11_block_20 : decode cX11_block 20 = .ok (.if_icmp .ge 12, 3) := by decide +kernel
theorem dX11_block_23 : decode cX11_block 23 = .ok (.iload_n 2, 1) := by decide +kernel
theorem dX11_block_24 : decode cX11_block 24 = .ok (.ifCond .lt 8, 3) := by decide +kernel
theorem dX11_block_27 : decode cX11_block 27 = .ok (.iload_n 2, 1) := by decide +kernel
theorem dX11_block_28 : decode cX11_block 28 = .ok (.iconst 2, 1) := by decide +kernel
theorem dX11_block_29 : decode cX11_block 29 = .ok (.if_icmp .le 13, 3) := by decide +kernel
theorem dX11_block_32 : decode cX11_block 32 = .ok (.new 61, 3) := by decide +kernel
theorem dX11_block_35 : decode cX11_block 35 = .ok (.dup, 1) := by decide +kernel
theorem dX11_block_36 : decode cX11_block 36 = .ok (.ldc 228, 2) := by decide +kernel
theorem dX11_block_38 : decode cX11_block 38 = .ok (.invokespecial 65, 3) := by decide +kernel
theorem dX11_block_41 : decode cX11_block 41 = .ok (.athrow, 1) := by decide +kernel
theorem dX11_block_42 : decode cX11_block 42 = .ok (.iload_n 2, 1) := by decide +kernel
theorem dX11_block_43 : decode cX11_block 43 = .ok (.ifCond .ne 5, 3) := by decide +kernel
theorem dX11_block_46 : decode cX11_block 46 = .ok (.iload_n 3, 1) := by decide +kernel
theorem dX11_block_47 : decode cX11_block 47 = .ok (.ireturn, 1) := by decide +kernel
theorem dX11_block_48 : decode cX11_block 48 = .ok (.iload_n 2, 1) := by decide +kernel
theorem dX11_block_49 : decode cX11_block 49 = .ok (.iconst 1, 1) := by decide +kernel
theorem dX11_block_50 : decode cX11_block 50 = .ok (.if_icmp .ne 18, 3) := by decide +kernel
theorem dX11_block_53 : decode cX11_block 53 = .ok (.aload_n 0, 1) := by decide +kernel
theorem dX11_block_54 : decode cX11_block 54 = .ok (.getfield 28, 3) := by decide +kernel
theorem dX11_block_57 : decode cX11_block 57 = .ok (.getfield 177, 3) := by decide +kernel
theorem dX11_block_60 : decode cX11_block 60 = .ok (.getfield 230, 3) := by decide +kernel
theorem dX11_block_63 : decode cX11_block 63 = .ok (.iload_n 3, 1) := by decide +kernel
theorem dX11_block_64 : decode cX11_block 64 = .ok (.iaload, 1) := by decide +kernel
theorem dX11_block_65 : decode cX11_block 65 = .ok (.goto 15, 3) := by decide +kernel
theorem dX11_block_68 : decode cX11_block 68 = .ok (.aload_n 0, 1) := by decide +kernel
theorem dX11_block_69 : decode cX11_block 69 = .ok (.getfield 28, 3) := by decide +kernel
theorem dX11_block_72 : decode cX11_block 72 = .ok (.getfield 177, 3) := by decide +kernel
theorem dX11_block_75 : decode cX11_block 75 = .ok (.getfield 233, 3) := by decide +kernel
theorem dX11_block_78 : decode cX11_block 78 = .ok (.iload_n 3, 1) := by decide +kernel
theorem dX11_block_79 : decode cX11_block 79 = .ok (.iaload, 1) := by decide +kernel
theorem dX11_block_80 : decode cX11_block 80 = .ok (.ireturn, 1) := by decide +kernel
theorem dX11_semaphore_0 : decode cX11_semaphore 0 = .ok (.iload_n 1, 1) := by decide +kernel
theorem dX11_semaphore_1 : decode cX11_semaphore 1 = .ok (.ifCond .lt 31, 3) := by decide +kernel
theorem dX11_semaphore_4 : decode cX11_semaphore 4 = .ok (.iload_n 1, 1) := by decide +kernel
theorem dX11_semaphore_5 : decode cX11_semaphore 5 = .ok (.bipush 8, 2) := by decide +kernel
theorem dX11_semaphore_7 : decode cX11_semaphore 7 = .ok (.if_icmp .ge 25, 3) := by decide +kernel
theorem dX11_semaphore_10 : decode cX11_semaphore 10 = .ok (.iload_n 2, 1) := by decide +kernel
theorem dX11_semaphore_11 : decode cX11_semaphore 11 = .ok (.ifCond .lt 21, 3) := by decide +kernel
theorem dX11_semaphore_14 : decode cX11_semaphore 14 = .ok (.iload_n 2, 1) := by decide +kernel
theorem dX11_semaphore_15 : decode cX11_semaphore 15 = .ok (.iconst 2, 1) := by decide +kernel
theorem dX11_semaphore_16 : decode cX11_semaphore 16 = .ok (.isub, 1) := by decide +kernel
theorem dX11_semaphore_17 : decode cX11_semaphore 17 = .ok (.aload_n 0, 1) := by decide +kernel
theorem dX11_semaphore_18 : decode cX11_semaphore 18 = .ok (.getfield 28, 3) := by decide +kernel
theorem dX11_semaphore_21 : decode cX11_semaphore 21 = .ok (.getfield 236, 3) := by decide +kernel
theorem dX11_semaphore_24 : decode cX11_semaphore 24 = .ok (.iload_n 1, 1) := by decide +kernel
theorem dX11_semaphore_25 : decode cX11_semaphore 25 = .ok (.aaload, 1) := by decide +kernel
theorem dX11_semaphore_26 : decode cX11_semaphore 26 = .ok (.getfield 212, 3) := by decide +kernel
theorem dX11_semaphore_29 : decode cX11_semaphore 29 = .ok (.if_icmp .lt 13, 3) := by decide +kernel
theorem dX11_semaphore_32 : decode cX11_semaphore 32 = .ok (.new 61, 3) := by decide +kernel
theorem dX11_semaphore_35 : decode cX11_semaphore 35 = .ok (.dup, 1) := by decide +kernel
theorem dX11_semaphore_36 : decode cX11_semaphore 36 = .ok (.ldc 239, 2) := by decide +kernel
theorem dX11_semaphore_38 : decode cX11_semaphore 38 = .ok (.invokespecial 65, 3) := by decide +kernel
theorem dX11_semaphore_41 : decode cX11_semaphore 41 = .ok (.athrow, 1) := by decide +kernel
theorem dX11_semaphore_42 : decode cX11_semaphore 42 = .ok (.iload_n 2, 1) := by decide +kernel
theorem dX11_semaphore_43 : decode cX11_semaphore 43 = .ok (.ifCond .ne 13, 3) := by decide +kernel
theorem dX11_semaphore_46 : decode cX11_semaphore 46 = .ok (.aload_n 0, 1) := by decide +kernel
theorem dX11_semaphore_47 : decode cX11_semaphore 47 = .ok (.getfield 28, 3) := by decide +kernel
theorem dX11_semaphore_50 : decode cX11_semaphore 50 = .ok (.getfield 241, 3) := by decide +kernel
theorem dX11_semaphore_53 : decode cX11_semaphore 53 = .ok (.iload_n 1, 1) := by decide +kernel
theorem dX11_semaphore_54 : decode cX11_semaphore 54 = .ok (.iaload, 1) := by decide +kernel
theorem dX11_semaphore_55 : decode cX11_semaphore 55 = .ok (.ireturn, 1) := by decide +kernel
theorem dX11_semaphore_56 : decode cX11_semaphore 56 = .ok (.iload_n 2, 1) := by decide +kernel
theorem dX11_semaphore_57 : decode cX11_semaphore 57 = .ok (.iconst 1, 1) := by decide +kernel
theorem dX11_semaphore_58 : decode cX11_semaphore 58 = .ok (.if_icmp .ne 18, 3) := by decide +kernel
theorem dX11_semaphore_61 : decode cX11_semaphore 61 = .ok (.aload_n 0, 1) := by decide +kernel
theorem dX11_semaphore_62 : decode cX11_semaphore 62 = .ok (.getfield 28, 3) := by decide +kernel
theorem dX11_semaphore_65 : decode cX11_semaphore 65 = .ok (.getfield 236, 3) := by decide +kernel
theorem dX11_semaphore_68 : decode cX11_semaphore 68 = .ok (.iload_n 1, 1) := by decide +kernel
theorem dX11_semaphore_69 : decode cX11_semaphore 69 = .ok (.aaload, 1) := by decide +kernel
theorem dX11_semaphore_70 : decode cX11_semaphore 70 = .ok (.getfield 212, 3) := by decide +kernel
theorem dX11_semaphore_73 : decode cX11_semaphore 73 = .ok (.goto 19, 3) := by decide +kernel
theorem dX11_semaphore_76 : decode cX11_semaphore 76 = .ok (.aload_n 0, 1) := by decide +kernel
theorem dX11_semaphore_77 : decode cX11_semaphore 77 = .ok (.getfield 28, 3) := by decide +kernel
theorem dX11_semaphore_80 : decode cX11_semaphore 80 = .ok (.getfield 236, 3) := by decide +kernel
theorem dX11_semaphore_83 : decode cX11_semaphore 83 = .ok (.iload_n 1, 1) := by decide +kernel
theorem dX11_semaphore_84 : decode cX11_semaphore 84 = .ok (.aaload, 1) := by decide +kernel
theorem dX11_semaphore_85 : decode cX11_semaphore 85 = .ok (.getfield 217, 3) := by decide +kernel
theorem dX11_semaphore_88 : decode cX11_semaphore 88 = .ok (.iload_n 2, 1) := by decide +kernel
theorem dX11_semaphore_89 : decode cX11_semaphore 89 = .ok (.iconst 2, 1) := by decide +kernel
theorem dX11_semaphore_90 : decode cX11_semaphore 90 = .ok (.isub, 1) := by decide +kernel
theorem dX11_semaphore_91 : decode cX11_semaphore 91 = .ok (.iaload, 1) := by decide +kernel
theorem dX11_semaphore_92 : decode cX11_semaphore 92 = .ok (.ireturn, 1) := by decide +kernel
theorem dX11_out_0 : decode cX11_out 0 = .ok (.iload_n 1, 1) := by decide +kernel
theorem dX11_out_1 : decode cX11_out 1 = .ok (.ifCond .lt 14, 3) := by decide +kernel
theorem dX11_out_4 : decode cX11_out 4 = .ok (.iload_n 1, 1) := by decide +kernel
theorem dX11_out_5 : decode cX11_out 5 = .ok (.aload_n 0, 1) := by decide +kernel
theorem dX11_out_6 : decode cX11_out 6 = .ok (.getfield 28, 3) := by decide +kernel
theorem dX11_out_9 : decode cX11_out 9 = .ok (.getfield 244, 3) := by decide +kernel
theorem dX11_out_12 : decode cX11_out 12 = .ok (.if_icmp .lt 13, 3) := by decide +kernel
theorem dX11_out_15 : decode cX11_out 15 = .ok (.new 61, 3) := by decide +kernel
theorem dX11_out_18 : decode cX11_out 18 = .ok (.dup, 1) := by decide +kernel
theorem dX11_out_19 : decode cX11_out 19 = .ok (.ldc 247, 2) := by decide +kernel
theorem dX11_out_21 : decode cX11_out 21 = .ok (.invokespecial 65, 3) := by decide +kernel
theorem dX11_out_24 : decode cX11_out 24 = .ok (.athrow, 1) := by decide +kernel
theorem dX11_out_25 : decode cX11_out 25 = .ok (.aload_n 0, 1) := by decide +kernel
theorem dX11_out_26 : decode cX11_out 26 = .ok (.getfield 28, 3) := by decide +kernel
theorem dX11_out_29 : decode cX11_out 29 = .ok (.getfield 249, 3) := by decide +kernel
theorem dX11_out_32 : decode cX11_out 32 = .ok (.iload_n 1, 1) := by decide +kernel
theorem dX11_out_33 : decode cX11_out 33 = .ok (.iaload, 1) := by decide +kernel
theorem dX11_out_34 : decode cX11_out 34 = .ok (.ireturn, 1) := by decide +kernel
theorem dX11_count_0 : decode cX11_count 0 = .ok (.iload_n 1, 1) := by decide +kernel
theorem dX11_count_1 : decode cX11_count 1 = .ok (.ifCond .lt 9, 3) := by decide +kernel
theorem dX11_count_4 : decode cX11_count 4 = .ok (.iload_n 1, 1) := by decide +kernel
theorem dX11_count_5 : decode cX11_count 5 = .ok (.bipush 10, 2) := by decide +kernel
theorem dX11_count_7 : decode cX11_count 7 = .ok (.if_icmp .le 13, 3) := by decide +kernel
theorem dX11_count_10 : decode cX11_count 10 = .ok (.new 61, 3) := by decide +kernel
theorem dX11_count_13 : decode cX11_count 13 = .ok (.dup, 1) := by decide +kernel
theorem dX11_count_14 : decode cX11_count 14 = .ok (.ldc 252, 2) := by decide +kernel
theorem dX11_count_16 : decode cX11_count 16 = .ok (.invokespecial 65, 3) := by decide +kernel
theorem dX11_count_19 : decode cX11_count 19 = .ok (.athrow, 1) := by decide +kernel
theorem dX11_count_20 : decode cX11_count 20 = .ok (.iload_n 1, 1) := by decide +kernel
theorem dX11_count_21 : decode cX11_count 21 = .ok (.tableswitch 151 0 9 #[55, 63, 71, 79, 91, 102, 113, 123, 135, 143], 55) := by decide +kernel
theorem dX11_count_76 : decode cX11_count 76 = .ok (.aload_n 0, 1) := by decide +kernel
theorem dX11_count_77 : decode cX11_count 77 = .ok (.getfield 28, 3) := by decide +kernel
theorem dX11_count_80 : decode cX11_count 80 = .ok (.getfield 254, 3) := by decide +kernel
theorem dX11_count_83 : decode cX11_count 83 = .ok (.ireturn, 1) := by decide +kernel
theorem dX11_count_84 : decode cX11_count 84 = .ok (.aload_n 0, 1) := by decide +kernel
theorem dX11_count_85 : decode cX11_count 85 = .ok (.getfield 28, 3) := by decide +kernel
theorem dX11_count_88 : decode cX11_count 88 = .ok (.getfield 244, 3) := by decide +kernel
theorem dX11_count_91 : decode cX11_count 91 = .ok (.ireturn, 1) := by decide +kernel
theorem dX11_count_92 : decode cX11_count 92 = .ok (.aload_n 0, 1) := by decide +kernel
theorem dX11_count_93 : decode cX11_count 93 = .ok (.getfield 28, 3) := by decide +kernel
theorem dX11_count_96 : decode cX11_count 96 = .ok (.getfield 257, 3) := by decide +kernel
theorem dX11_count_99 : decode cX11_count 99 = .ok (.ireturn, 1) := by decide +kernel
theorem dX11_count_100 : decode cX11_count 100 = .ok (.aload_n 0, 1) := by decide +kernel
theorem dX11_count_101 : decode cX11_count 101 = .ok (.getfield 28, 3) := by decide +kernel
theorem dX11_count_104 : decode cX11_count 104 = .ok (.getfield 177, 3) := by decide +kernel
theorem dX11_count_107 : decode cX11_count 107 = .ok (.iconst 0, 1) := by decide +kernel
theorem dX11_count_108 : decode cX11_count 108 = .ok (.invokevirtual 181, 3) := by decide +kernel
theorem dX11_count_111 : decode cX11_count 111 = .ok (.ireturn, 1) := by decide +kernel
theorem dX11_count_112 : decode cX11_count 112 = .ok (.aload_n 0, 1) := by decide +kernel
theorem dX11_count_113 : decode cX11_count 113 = .ok (.getfield 28, 3) := by decide +kernel
theorem dX11_count_116 : decode cX11_count 116 = .ok (.getfield 177, 3) := by decide +kernel
theorem dX11_count_119 : decode cX11_count 119 = .ok (.invokevirtual 260, 3) := by decide +kernel
theorem dX11_count_122 : decode cX11_count 122 = .ok (.ireturn, 1) := by decide +kernel
theorem dX11_count_123 : decode cX11_count 123 = .ok (.aload_n 0, 1) := by decide +kernel
theorem dX11_count_124 : decode cX11_count 124 = .ok (.getfield 28, 3) := by decide +kernel
theorem dX11_count_127 : decode cX11_count 127 = .ok (.iconst 1, 1) := by decide +kernel
theorem dX11_count_128 : decode cX11_count 128 = .ok (.bipush 6, 2) := by decide +kernel
theorem dX11_count_130 : decode cX11_count 130 = .ok (.invokevirtual 263, 3) := by decide +kernel
theorem dX11_count_133 : decode cX11_count 133 = .ok (.ireturn, 1) := by decide +kernel
theorem dX11_count_134 : decode cX11_count 134 = .ok (.aload_n 0, 1) := by decide +kernel
theorem dX11_count_135 : decode cX11_count 135 = .ok (.getfield 28, 3) := by decide +kernel
theorem dX11_count_138 : decode cX11_count 138 = .ok (.iconst 1, 1) := by decide +kernel
theorem dX11_count_139 : decode cX11_count 139 = .ok (.iconst 1, 1) := by decide +kernel
theorem dX11_count_140 : decode cX11_count 140 = .ok (.invokevirtual 263, 3) := by decide +kernel
theorem dX11_count_143 : decode cX11_count 143 = .ok (.ireturn, 1) := by decide +kernel
theorem dX11_count_144 : decode cX11_count 144 = .ok (.aload_n 0, 1) := by decide +kernel
theorem dX11_count_145 : decode cX11_count 145 = .ok (.getfield 28, 3) := by decide +kernel
theorem dX11_count_148 : decode cX11_count 148 = .ok (.bipush 7, 2) := by decide +kernel
theorem dX11_count_150 : decode cX11_count 150 = .ok (.bipush 7, 2) := by decide +kernel
theorem dX11_count_152 : decode cX11_count 152 = .ok (.invokevirtual 263, 3) := by decide +kernel
theorem dX11_count_155 : decode cX11_count 155 = .ok (.ireturn, 1) := by decide +kernel
theorem dX11_count_156 : decode cX11_count 156 = .ok (.aload_n 0, 1) := by decide +kernel
theorem dX11_count_157 : decode cX11_count 157 = .ok (.getfield 28, 3) := by decide +kernel
theorem dX11_count_160 : decode cX11_count 160 = .ok (.invokevirtual 267, 3) := by decide +kernel
theorem dX11_count_163 : decode cX11_count 163 = .ok (.ireturn, 1) := by decide +kernel
theorem dX11_count_164 : decode cX11_count 164 = .ok (.aload_n 0, 1) := by decide +kernel
theorem dX11_count_165 : decode cX11_count 165 = .ok (.getfield 28, 3) := by decide +kernel
theorem dX11_count_168 : decode cX11_count 168 = .ok (.invokevirtual 270, 3) := by decide +kernel
theorem dX11_count_171 : decode cX11_count 171 = .ok (.ireturn, 1) := by decide +kernel
theorem dX11_count_172 : decode cX11_count 172 = .ok (.aload_n 0, 1) := by decide +kernel
theorem dX11_count_173 : decode cX11_count 173 = .ok (.getfield 10, 3) := by decide +kernel
theorem dX11_count_176 : decode cX11_count 176 = .ok (.getfield 41, 3) := by decide +kernel
theorem dX11_count_179 : decode cX11_count 179 = .ok (.ireturn, 1) := by decide +kernel
