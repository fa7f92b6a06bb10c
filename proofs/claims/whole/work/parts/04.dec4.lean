theorem zd_M_made_8 : decode zc_M_made 8 = .ok (.isub, 1) := by decide +kernel
theorem zd_M_made_9 : decode zc_M_made 9 = .ok (.ireturn, 1) := by decide +kernel
theorem zd_M_literals_0 : decode zc_M_literals 0 = .ok (.iconst 0, 1) := by decide +kernel
theorem zd_M_literals_1 : decode zc_M_literals 1 = .ok (.istore_n 2, 1) := by decide +kernel
theorem zd_M_literals_2 : decode zc_M_literals 2 = .ok (.iload_n 2, 1) := by decide +kernel
theorem zd_M_literals_3 : decode zc_M_literals 3 = .ok (.iload_n 1, 1) := by decide +kernel
theorem zd_M_literals_4 : decode zc_M_literals 4 = .ok (.if_icmp .ge 48, 3) := by decide +kernel
theorem zd_M_literals_7 : decode zc_M_literals 7 = .ok (.aload_n 0, 1) := by decide +kernel
theorem zd_M_literals_8 : decode zc_M_literals 8 = .ok (.getfield 106, 3) := by decide +kernel
theorem zd_M_literals_11 : decode zc_M_literals 11 = .ok (.ifCond .ge 41, 3) := by decide +kernel
theorem zd_M_literals_14 : decode zc_M_literals 14 = .ok (.aload_n 0, 1) := by decide +kernel
theorem zd_M_literals_15 : decode zc_M_literals 15 = .ok (.invokevirtual 116, 3) := by decide +kernel
theorem zd_M_literals_18 : decode zc_M_literals 18 = .ok (.istore_n 3, 1) := by decide +kernel
theorem zd_M_literals_19 : decode zc_M_literals 19 = .ok (.aload_n 0, 1) := by decide +kernel
theorem zd_M_literals_20 : decode zc_M_literals 20 = .ok (.getfield 106, 3) := by decide +kernel
theorem zd_M_literals_23 : decode zc_M_literals 23 = .ok (.ifCond .ge 23, 3) := by decide +kernel
theorem zd_M_literals_26 : decode zc_M_literals 26 = .ok (.aload_n 0, 1) := by decide +kernel
theorem zd_M_literals_27 : decode zc_M_literals 27 = .ok (.getfield 16, 3) := by decide +kernel
theorem zd_M_literals_30 : decode zc_M_literals 30 = .ok (.aload_n 0, 1) := by decide +kernel
theorem zd_M_literals_31 : decode zc_M_literals 31 = .ok (.getfield 57, 3) := by decide +kernel
theorem zd_M_literals_34 : decode zc_M_literals 34 = .ok (.iload_n 3, 1) := by decide +kernel
theorem zd_M_literals_35 : decode zc_M_literals 35 = .ok (.iastore, 1) := by decide +kernel
theorem zd_M_literals_36 : decode zc_M_literals 36 = .ok (.aload_n 0, 1) := by decide +kernel
theorem zd_M_literals_37 : decode zc_M_literals 37 = .ok (.dup, 1) := by decide +kernel
theorem zd_M_literals_38 : decode zc_M_literals 38 = .ok (.getfield 57, 3) := by decide +kernel
theorem zd_M_literals_41 : decode zc_M_literals 41 = .ok (.iconst 1, 1) := by decide +kernel
theorem zd_M_literals_42 : decode zc_M_literals 42 = .ok (.iadd, 1) := by decide +kernel
theorem zd_M_literals_43 : decode zc_M_literals 43 = .ok (.putfield 57, 3) := by decide +kernel
theorem zd_M_literals_46 : decode zc_M_literals 46 = .ok (.iinc 2 1, 3) := by decide +kernel
theorem zd_M_literals_49 : decode zc_M_literals 49 = .ok (.goto (-47), 3) := by decide +kernel
theorem zd_M_literals_52 : decode zc_M_literals 52 = .ok (.return_, 1) := by decide +kernel
theorem zd_M_copies_0 : decode zc_M_copies 0 = .ok (.iconst 0, 1) := by decide +kernel
theorem zd_M_copies_1 : decode zc_M_copies 1 = .ok (.istore_n 3, 1) := by decide +kernel
theorem zd_M_copies_2 : decode zc_M_copies 2 = .ok (.iload_n 3, 1) := by decide +kernel
theorem zd_M_copies_3 : decode zc_M_copies 3 = .ok (.iload_n 1, 1) := by decide +kernel
theorem zd_M_copies_4 : decode zc_M_copies 4 = .ok (.if_icmp .ge 46, 3) := by decide +kernel
theorem zd_M_copies_7 : decode zc_M_copies 7 = .ok (.aload_n 0, 1) := by decide +kernel
theorem zd_M_copies_8 : decode zc_M_copies 8 = .ok (.getfield 106, 3) := by decide +kernel
theorem zd_M_copies_11 : decode zc_M_copies 11 = .ok (.ifCond .ge 39, 3) := by decide +kernel
theorem zd_M_copies_14 : decode zc_M_copies 14 = .ok (.aload_n 0, 1) := by decide +kernel
theorem zd_M_copies_15 : decode zc_M_copies 15 = .ok (.getfield 16, 3) := by decide +kernel
theorem zd_M_copies_18 : decode zc_M_copies 18 = .ok (.aload_n 0, 1) := by decide +kernel
theorem zd_M_copies_19 : decode zc_M_copies 19 = .ok (.getfield 57, 3) := by decide +kernel
theorem zd_M_copies_22 : decode zc_M_copies 22 = .ok (.aload_n 0, 1) := by decide +kernel
theorem zd_M_copies_23 : decode zc_M_copies 23 = .ok (.getfield 16, 3) := by decide +kernel
theorem zd_M_copies_26 : decode zc_M_copies 26 = .ok (.aload_n 0, 1) := by decide +kernel
theorem zd_M_copies_27 : decode zc_M_copies 27 = .ok (.getfield 57, 3) := by decide +kernel
theorem zd_M_copies_30 : decode zc_M_copies 30 = .ok (.iload_n 2, 1) := by decide +kernel
theorem zd_M_copies_31 : decode zc_M_copies 31 = .ok (.isub, 1) := by decide +kernel
theorem zd_M_copies_32 : decode zc_M_copies 32 = .ok (.iaload, 1) := by decide +kernel
theorem zd_M_copies_33 : decode zc_M_copies 33 = .ok (.iastore, 1) := by decide +kernel
theorem zd_M_copies_34 : decode zc_M_copies 34 = .ok (.aload_n 0, 1) := by decide +kernel
theorem zd_M_copies_35 : decode zc_M_copies 35 = .ok (.dup, 1) := by decide +kernel
theorem zd_M_copies_36 : decode zc_M_copies 36 = .ok (.getfield 57, 3) := by decide +kernel
theorem zd_M_copies_39 : decode zc_M_copies 39 = .ok (.iconst 1, 1) := by decide +kernel
theorem zd_M_copies_40 : decode zc_M_copies 40 = .ok (.iadd, 1) := by decide +kernel
theorem zd_M_copies_41 : decode zc_M_copies 41 = .ok (.putfield 57, 3) := by decide +kernel
theorem zd_M_copies_44 : decode zc_M_copies 44 = .ok (.iinc 3 1, 3) := by decide +kernel
theorem zd_M_copies_47 : decode zc_M_copies 47 = .ok (.goto (-45), 3) := by decide +kernel
theorem zd_M_copies_50 : decode zc_M_copies 50 = .ok (.return_, 1) := by decide +kernel
theorem zd_M_more_0 : decode zc_M_more 0 = .ok (.iload_n 1, 1) := by decide +kernel
theorem zd_M_more_1 : decode zc_M_more 1 = .ok (.istore_n 2, 1) := by decide +kernel
theorem zd_M_more_2 : decode zc_M_more 2 = .ok (.iload_n 1, 1) := by decide +kernel
theorem zd_M_more_3 : decode zc_M_more 3 = .ok (.bipush 15, 2) := by decide +kernel
theorem zd_M_more_5 : decode zc_M_more 5 = .ok (.if_icmp .ne 9, 3) := by decide +kernel
theorem zd_M_more_8 : decode zc_M_more 8 = .ok (.sipush 255, 3) := by decide +kernel
theorem zd_M_more_11 : decode zc_M_more 11 = .ok (.goto 4, 3) := by decide +kernel
theorem zd_M_more_14 : decode zc_M_more 14 = .ok (.iconst 0, 1) := by decide +kernel
theorem zd_M_more_15 : decode zc_M_more 15 = .ok (.istore_n 3, 1) := by decide +kernel
theorem zd_M_more_16 : decode zc_M_more 16 = .ok (.iload_n 3, 1) := by decide +kernel
theorem zd_M_more_17 : decode zc_M_more 17 = .ok (.sipush 255, 3) := by decide +kernel
theorem zd_M_more_20 : decode zc_M_more 20 = .ok (.if_icmp .ne 22, 3) := by decide +kernel
theorem zd_M_more_23 : decode zc_M_more 23 = .ok (.aload_n 0, 1) := by decide +kernel
theorem zd_M_more_24 : decode zc_M_more 24 = .ok (.getfield 106, 3) := by decide +kernel
theorem zd_M_more_27 : decode zc_M_more 27 = .ok (.ifCond .ge 15, 3) := by decide +kernel
theorem zd_M_more_30 : decode zc_M_more 30 = .ok (.aload_n 0, 1) := by decide +kernel
theorem zd_M_more_31 : decode zc_M_more 31 = .ok (.invokevirtual 116, 3) := by decide +kernel
theorem zd_M_more_34 : decode zc_M_more 34 = .ok (.istore_n 3, 1) := by decide +kernel
theorem zd_M_more_35 : decode zc_M_more 35 = .ok (.iload_n 2, 1) := by decide +kernel
theorem zd_M_more_36 : decode zc_M_more 36 = .ok (.iload_n 3, 1) := by decide +kernel
theorem zd_M_more_37 : decode zc_M_more 37 = .ok (.iadd, 1) := by decide +kernel
theorem zd_M_more_38 : decode zc_M_more 38 = .ok (.istore_n 2, 1) := by decide +kernel
theorem zd_M_more_39 : decode zc_M_more 39 = .ok (.goto (-23), 3) := by decide +kernel
theorem zd_M_more_42 : decode zc_M_more 42 = .ok (.iload_n 2, 1) := by decide +kernel
theorem zd_M_more_43 : decode zc_M_more 43 = .ok (.ireturn, 1) := by decide +kernel
theorem zd_M_readZero_0 : decode zc_M_readZero 0 = .ok (.iconst 1, 1) := by decide +kernel
theorem zd_M_readZero_1 : decode zc_M_readZero 1 = .ok (.istore_n 1, 1) := by decide +kernel
theorem zd_M_readZero_2 : decode zc_M_readZero 2 = .ok (.iload_n 1, 1) := by decide +kernel
theorem zd_M_readZero_3 : decode zc_M_readZero 3 = .ok (.ifCond .eq 183, 3) := by decide +kernel
theorem zd_M_readZero_6 : decode zc_M_readZero 6 = .ok (.aload_n 0, 1) := by decide +kernel
theorem zd_M_readZero_7 : decode zc_M_readZero 7 = .ok (.getfield 106, 3) := by decide +kernel
theorem zd_M_readZero_10 : decode zc_M_readZero 10 = .ok (.ifCond .ge 176, 3) := by decide +kernel
theorem zd_M_readZero_13 : decode zc_M_readZero 13 = .ok (.aload_n 0, 1) := by decide +kernel
theorem zd_M_readZero_14 : decode zc_M_readZero 14 = .ok (.getfield 109, 3) := by decide +kernel
theorem zd_M_readZero_17 : decode zc_M_readZero 17 = .ok (.istore_n 2, 1) := by decide +kernel
theorem zd_M_readZero_18 : decode zc_M_readZero 18 = .ok (.aload_n 0, 1) := by decide +kernel
theorem zd_M_readZero_19 : decode zc_M_readZero 19 = .ok (.invokevirtual 116, 3) := by decide +kernel
theorem zd_M_readZero_22 : decode zc_M_readZero 22 = .ok (.istore_n 3, 1) := by decide +kernel
theorem zd_M_readZero_23 : decode zc_M_readZero 23 = .ok (.aload_n 0, 1) := by decide +kernel
theorem zd_M_readZero_24 : decode zc_M_readZero 24 = .ok (.iload_n 3, 1) := by decide +kernel
theorem zd_M_readZero_25 : decode zc_M_readZero 25 = .ok (.iconst 4, 1) := by decide +kernel
theorem zd_M_readZero_26 : decode zc_M_readZero 26 = .ok (.ishr, 1) := by decide +kernel
theorem zd_M_readZero_27 : decode zc_M_readZero 27 = .ok (.invokevirtual 120, 3) := by decide +kernel
theorem zd_M_readZero_30 : decode zc_M_readZero 30 = .ok (.istore 4, 2) := by decide +kernel
theorem zd_M_readZero_32 : decode zc_M_readZero 32 = .ok (.aload_n 0, 1) := by decide +kernel
theorem zd_M_readZero_33 : decode zc_M_readZero 33 = .ok (.aload_n 0, 1) := by decide +kernel
theorem zd_M_readZero_34 : decode zc_M_readZero 34 = .ok (.invokevirtual 123, 3) := by decide +kernel
theorem zd_M_readZero_37 : decode zc_M_readZero 37 = .ok (.iload 4, 2) := by decide +kernel
theorem zd_M_readZero_39 : decode zc_M_readZero 39 = .ok (.iadd, 1) := by decide +kernel
theorem zd_M_readZero_40 : decode zc_M_readZero 40 = .ok (.sipush 160, 3) := by decide +kernel
theorem zd_M_readZero_43 : decode zc_M_readZero 43 = .ok (.if_icmp .gt 7, 3) := by decide +kernel
theorem zd_M_readZero_46 : decode zc_M_readZero 46 = .ok (.iconst 1, 1) := by decide +kernel
theorem zd_M_readZero_47 : decode zc_M_readZero 47 = .ok (.goto 4, 3) := by decide +kernel
theorem zd_M_readZero_50 : decode zc_M_readZero 50 = .ok (.iconst 0, 1) := by decide +kernel
theorem zd_M_readZero_51 : decode zc_M_readZero 51 = .ok (.iload_n 2, 1) := by decide +kernel
theorem zd_M_readZero_52 : decode zc_M_readZero 52 = .ok (.invokevirtual 112, 3) := by decide +kernel
theorem zd_M_readZero_55 : decode zc_M_readZero 55 = .ok (.aload_n 0, 1) := by decide +kernel
theorem zd_M_readZero_56 : decode zc_M_readZero 56 = .ok (.iload 4, 2) := by decide +kernel
theorem zd_M_readZero_58 : decode zc_M_readZero 58 = .ok (.invokevirtual 126, 3) := by decide +kernel
theorem zd_M_readZero_61 : decode zc_M_readZero 61 = .ok (.aload_n 0, 1) := by decide +kernel
theorem zd_M_readZero_62 : decode zc_M_readZero 62 = .ok (.getfield 109, 3) := by decide +kernel
theorem zd_M_readZero_65 : decode zc_M_readZero 65 = .ok (.aload_n 0, 1) := by decide +kernel
theorem zd_M_readZero_66 : decode zc_M_readZero 66 = .ok (.getfield 13, 3) := by decide +kernel
theorem zd_M_readZero_69 : decode zc_M_readZero 69 = .ok (.iconst 1, 1) := by decide +kernel
theorem zd_M_readZero_70 : decode zc_M_readZero 70 = .ok (.iaload, 1) := by decide +kernel
theorem zd_M_readZero_71 : decode zc_M_readZero 71 = .ok (.if_icmp .ge 7, 3) := by decide +kernel
theorem zd_M_readZero_74 : decode zc_M_readZero 74 = .ok (.iconst 1, 1) := by decide +kernel
theorem zd_M_readZero_75 : decode zc_M_readZero 75 = .ok (.goto 4, 3) := by decide +kernel
theorem zd_M_readZero_78 : decode zc_M_readZero 78 = .ok (.iconst 0, 1) := by decide +kernel
theorem zd_M_readZero_79 : decode zc_M_readZero 79 = .ok (.istore_n 1, 1) := by decide +kernel
theorem zd_M_readZero_80 : decode zc_M_readZero 80 = .ok (.iload_n 1, 1) := by decide +kernel
theorem zd_M_readZero_81 : decode zc_M_readZero 81 = .ok (.ifCond .eq 102, 3) := by decide +kernel
theorem zd_M_readZero_84 : decode zc_M_readZero 84 = .ok (.aload_n 0, 1) := by decide +kernel
theorem zd_M_readZero_85 : decode zc_M_readZero 85 = .ok (.getfield 106, 3) := by decide +kernel
theorem zd_M_readZero_88 : decode zc_M_readZero 88 = .ok (.ifCond .ge 95, 3) := by decide +kernel
theorem zd_M_readZero_91 : decode zc_M_readZero 91 = .ok (.aload_n 0, 1) := by decide +kernel
theorem zd_M_readZero_92 : decode zc_M_readZero 92 = .ok (.getfield 109, 3) := by decide +kernel
theorem zd_M_readZero_95 : decode zc_M_readZero 95 = .ok (.istore 5, 2) := by decide +kernel
theorem zd_M_readZero_97 : decode zc_M_readZero 97 = .ok (.aload_n 0, 1) := by decide +kernel
theorem zd_M_readZero_98 : decode zc_M_readZero 98 = .ok (.invokevirtual 116, 3) := by decide +kernel
theorem zd_M_readZero_101 : decode zc_M_readZero 101 = .ok (.istore 6, 2) := by decide +kernel
theorem zd_M_readZero_103 : decode zc_M_readZero 103 = .ok (.iload 6, 2) := by decide +kernel
theorem zd_M_readZero_105 : decode zc_M_readZero 105 = .ok (.aload_n 0, 1) := by decide +kernel
theorem zd_M_readZero_106 : decode zc_M_readZero 106 = .ok (.invokevirtual 116, 3) := by decide +kernel
theorem zd_M_readZero_109 : decode zc_M_readZero 109 = .ok (.bipush 8, 2) := by decide +kernel
theorem zd_M_readZero_111 : decode zc_M_readZero 111 = .ok (.ishl, 1) := by decide +kernel
theorem zd_M_readZero_112 : decode zc_M_readZero 112 = .ok (.ior, 1) := by decide +kernel
theorem zd_M_readZero_113 : decode zc_M_readZero 113 = .ok (.istore 7, 2) := by decide +kernel
theorem zd_M_readZero_115 : decode zc_M_readZero 115 = .ok (.aload_n 0, 1) := by decide +kernel
theorem zd_M_readZero_116 : decode zc_M_readZero 116 = .ok (.iload 7, 2) := by decide +kernel
theorem zd_M_readZero_118 : decode zc_M_readZero 118 = .ok (.ifCond .le 16, 3) := by decide +kernel
theorem zd_M_readZero_121 : decode zc_M_readZero 121 = .ok (.iload 7, 2) := by decide +kernel
theorem zd_M_readZero_123 : decode zc_M_readZero 123 = .ok (.aload_n 0, 1) := by decide +kernel
theorem zd_M_readZero_124 : decode zc_M_readZero 124 = .ok (.getfield 57, 3) := by decide +kernel
theorem zd_M_readZero_127 : decode zc_M_readZero 127 = .ok (.if_icmp .gt 7, 3) := by decide +kernel
theorem zd_M_readZero_130 : decode zc_M_readZero 130 = .ok (.iconst 1, 1) := by decide +kernel
theorem zd_M_readZero_131 : decode zc_M_readZero 131 = .ok (.goto 4, 3) := by decide +kernel
theorem zd_M_readZero_134 : decode zc_M_readZero 134 = .ok (.iconst 0, 1) := by decide +kernel
theorem zd_M_readZero_135 : decode zc_M_readZero 135 = .ok (.iload 5, 2) := by decide +kernel
theorem zd_M_readZero_137 : decode zc_M_readZero 137 = .ok (.invokevirtual 112, 3) := by decide +kernel
theorem zd_M_readZero_140 : decode zc_M_readZero 140 = .ok (.aload_n 0, 1) := by decide +kernel
theorem zd_M_readZero_141 : decode zc_M_readZero 141 = .ok (.iload_n 3, 1) := by decide +kernel
theorem zd_M_readZero_142 : decode zc_M_readZero 142 = .ok (.bipush 15, 2) := by decide +kernel
theorem zd_M_readZero_144 : decode zc_M_readZero 144 = .ok (.iand, 1) := by decide +kernel
theorem zd_M_readZero_145 : decode zc_M_readZero 145 = .ok (.invokevirtual 120, 3) := by decide +kernel
theorem zd_M_readZero_148 : decode zc_M_readZero 148 = .ok (.iconst 4, 1) := by decide +kernel
theorem zd_M_readZero_149 : decode zc_M_readZero 149 = .ok (.iadd, 1) := by decide +kernel
theorem zd_M_readZero_150 : decode zc_M_readZero 150 = .ok (.istore 8, 2) := by decide +kernel
theorem zd_M_readZero_152 : decode zc_M_readZero 152 = .ok (.aload_n 0, 1) := by decide +kernel
theorem zd_M_readZero_153 : decode zc_M_readZero 153 = .ok (.aload_n 0, 1) := by decide +kernel
theorem zd_M_readZero_154 : decode zc_M_readZero 154 = .ok (.invokevirtual 123, 3) := by decide +kernel
theorem zd_M_readZero_157 : decode zc_M_readZero 157 = .ok (.iload 8, 2) := by decide +kernel
theorem zd_M_readZero_159 : decode zc_M_readZero 159 = .ok (.iadd, 1) := by decide +kernel
theorem zd_M_readZero_160 : decode zc_M_readZero 160 = .ok (.sipush 160, 3) := by decide +kernel
theorem zd_M_readZero_163 : decode zc_M_readZero 163 = .ok (.if_icmp .gt 7, 3) := by decide +kernel
theorem zd_M_readZero_166 : decode zc_M_readZero 166 = .ok (.iconst 1, 1) := by decide +kernel
theorem zd_M_readZero_167 : decode zc_M_readZero 167 = .ok (.goto 4, 3) := by decide +kernel
theorem zd_M_readZero_170 : decode zc_M_readZero 170 = .ok (.iconst 0, 1) := by decide +kernel
theorem zd_M_readZero_171 : decode zc_M_readZero 171 = .ok (.iload_n 2, 1) := by decide +kernel
theorem zd_M_readZero_172 : decode zc_M_readZero 172 = .ok (.invokevirtual 112, 3) := by decide +kernel
theorem zd_M_readZero_175 : decode zc_M_readZero 175 = .ok (.aload_n 0, 1) := by decide +kernel
theorem zd_M_readZero_176 : decode zc_M_readZero 176 = .ok (.iload 8, 2) := by decide +kernel
theorem zd_M_readZero_178 : decode zc_M_readZero 178 = .ok (.iload 7, 2) := by decide +kernel
theorem zd_M_readZero_180 : decode zc_M_readZero 180 = .ok (.invokevirtual 129, 3) := by decide +kernel
theorem zd_M_readZero_183 : decode zc_M_readZero 183 = .ok (.goto (-181), 3) := by decide +kernel
theorem zd_M_readZero_186 : decode zc_M_readZero 186 = .ok (.return_, 1) := by decide +kernel
theorem zd_M_element_0 : decode zc_M_element 0 = .ok (.aload_n 0, 1) := by decide +kernel
theorem zd_M_element_1 : decode zc_M_element 1 = .ok (.getfield 109, 3) := by decide +kernel
theorem zd_M_element_4 : decode zc_M_element 4 = .ok (.istore_n 2, 1) := by decide +kernel
theorem zd_M_element_5 : decode zc_M_element 5 = .ok (.aload_n 0, 1) := by decide +kernel
theorem zd_M_element_6 : decode zc_M_element 6 = .ok (.invokevirtual 116, 3) := by decide +kernel
theorem zd_M_element_9 : decode zc_M_element 9 = .ok (.istore_n 3, 1) := by decide +kernel
theorem zd_M_element_10 : decode zc_M_element 10 = .ok (.iload_n 3, 1) := by decide +kernel
theorem zd_M_element_11 : decode zc_M_element 11 = .ok (.iconst 3, 1) := by decide +kernel
theorem zd_M_element_12 : decode zc_M_element 12 = .ok (.iand, 1) := by decide +kernel
theorem zd_M_element_13 : decode zc_M_element 13 = .ok (.istore 4, 2) := by decide +kernel
theorem zd_M_element_15 : decode zc_M_element 15 = .ok (.aload_n 0, 1) := by decide +kernel
theorem zd_M_element_16 : decode zc_M_element 16 = .ok (.iload 4, 2) := by decide +kernel
theorem zd_M_element_18 : decode zc_M_element 18 = .ok (.iconst 3, 1) := by decide +kernel
theorem zd_M_element_19 : decode zc_M_element 19 = .ok (.if_icmp .ge 20, 3) := by decide +kernel
theorem zd_M_element_22 : decode zc_M_element 22 = .ok (.iload 4, 2) := by decide +kernel
theorem zd_M_element_24 : decode zc_M_element 24 = .ok (.ifCond .gt 11, 3) := by decide +kernel
theorem zd_M_element_27 : decode zc_M_element 27 = .ok (.iload_n 3, 1) := by decide +kernel
theorem zd_M_element_28 : decode zc_M_element 28 = .ok (.iconst 2, 1) := by decide +kernel
theorem zd_M_element_29 : decode zc_M_element 29 = .ok (.ishr, 1) := by decide +kernel
theorem zd_M_element_30 : decode zc_M_element 30 = .ok (.bipush 60, 2) := by decide +kernel
theorem zd_M_element_32 : decode zc_M_element 32 = .ok (.if_icmp .gt 7, 3) := by decide +kernel
theorem zd_M_element_35 : decode zc_M_element 35 = .ok (.iconst 1, 1) := by decide +kernel
theorem zd_M_element_36 : decode zc_M_element 36 = .ok (.goto 4, 3) := by decide +kernel
theorem zd_M_element_39 : decode zc_M_element 39 = .ok (.iconst 0, 1) := by decide +kernel
theorem zd_M_element_40 : decode zc_M_element 40 = .ok (.iload_n 2, 1) := by decide +kernel
theorem zd_M_element_41 : decode zc_M_element 41 = .ok (.invokevirtual 112, 3) := by decide +kernel
theorem zd_M_element_44 : decode zc_M_element 44 = .ok (.iload 4, 2) := by decide +kernel
theorem zd_M_element_46 : decode zc_M_element 46 = .ok (.ifCond .ne 11, 3) := by decide +kernel
theorem zd_M_element_49 : decode zc_M_element 49 = .ok (.iload_n 3, 1) := by decide +kernel
theorem zd_M_element_50 : decode zc_M_element 50 = .ok (.iconst 2, 1) := by decide +kernel
theorem zd_M_element_51 : decode zc_M_element 51 = .ok (.ishr, 1) := by decide +kernel
theorem zd_M_element_52 : decode zc_M_element 52 = .ok (.iconst 1, 1) := by decide +kernel
theorem zd_M_element_53 : decode zc_M_element 53 = .ok (.iadd, 1) := by decide +kernel
theorem zd_M_element_54 : decode zc_M_element 54 = .ok (.goto 25, 3) := by decide +kernel
theorem zd_M_element_57 : decode zc_M_element 57 = .ok (.iload 4, 2) := by decide +kernel
theorem zd_M_element_59 : decode zc_M_element 59 = .ok (.iconst 1, 1) := by decide +kernel
theorem zd_M_element_60 : decode zc_M_element 60 = .ok (.if_icmp .ne 14, 3) := by decide +kernel
theorem zd_M_element_63 : decode zc_M_element 63 = .ok (.iload_n 3, 1) := by decide +kernel
theorem zd_M_element_64 : decode zc_M_element 64 = .ok (.iconst 2, 1) := by decide +kernel
theorem zd_M_element_65 : decode zc_M_element 65 = .ok (.ishr, 1) := by decide +kernel
theorem zd_M_element_66 : decode zc_M_element 66 = .ok (.bipush 7, 2) := by decide +kernel
theorem zd_M_element_68 : decode zc_M_element 68 = .ok (.iand, 1) := by decide +kernel
theorem zd_M_element_69 : decode zc_M_element 69 = .ok (.iconst 4, 1) := by decide +kernel
theorem zd_M_element_70 : decode zc_M_element 70 = .ok (.iadd, 1) := by decide +kernel
theorem zd_M_element_71 : decode zc_M_element 71 = .ok (.goto 8, 3) := by decide +kernel
theorem zd_M_element_74 : decode zc_M_element 74 = .ok (.iload_n 3, 1) := by decide +kernel
theorem zd_M_element_75 : decode zc_M_element 75 = .ok (.iconst 2, 1) := by decide +kernel
theorem zd_M_element_76 : decode zc_M_element 76 = .ok (.ishr, 1) := by decide +kernel
theorem zd_M_element_77 : decode zc_M_element 77 = .ok (.iconst 1, 1) := by decide +kernel
theorem zd_M_element_78 : decode zc_M_element 78 = .ok (.iadd, 1) := by decide +kernel
theorem zd_M_element_79 : decode zc_M_element 79 = .ok (.istore 5, 2) := by decide +kernel
theorem zd_M_element_81 : decode zc_M_element 81 = .ok (.iload 4, 2) := by decide +kernel
theorem zd_M_element_83 : decode zc_M_element 83 = .ok (.ifCond .ne 46, 3) := by decide +kernel
theorem zd_M_element_86 : decode zc_M_element 86 = .ok (.iload 5, 2) := by decide +kernel
theorem zd_M_element_88 : decode zc_M_element 88 = .ok (.bipush 61, 2) := by decide +kernel
theorem zd_M_element_90 : decode zc_M_element 90 = .ok (.if_icmp .ne 11, 3) := by decide +kernel
theorem zd_M_element_93 : decode zc_M_element 93 = .ok (.aload_n 0, 1) := by decide +kernel
theorem zd_M_element_94 : decode zc_M_element 94 = .ok (.invokevirtual 116, 3) := by decide +kernel
theorem zd_M_element_97 : decode zc_M_element 97 = .ok (.iconst 1, 1) := by decide +kernel
theorem zd_M_element_98 : decode zc_M_element 98 = .ok (.iadd, 1) := by decide +kernel
theorem zd_M_element_99 : decode zc_M_element 99 = .ok (.istore 5, 2) := by decide +kernel
theorem zd_M_element_101 : decode zc_M_element 101 = .ok (.aload_n 0, 1) := by decide +kernel
theorem zd_M_element_102 : decode zc_M_element 102 = .ok (.aload_n 0, 1) := by decide +kernel
theorem zd_M_element_103 : decode zc_M_element 103 = .ok (.invokevirtual 123, 3) := by decide +kernel
theorem zd_M_element_106 : decode zc_M_element 106 = .ok (.iload 5, 2) := by decide +kernel
theorem zd_M_element_108 : decode zc_M_element 108 = .ok (.iadd, 1) := by decide +kernel
theorem zd_M_element_109 : decode zc_M_element 109 = .ok (.iload_n 1, 1) := by decide +kernel
theorem zd_M_element_110 : decode zc_M_element 110 = .ok (.if_icmp .gt 7, 3) := by decide +kernel
theorem zd_M_element_113 : decode zc_M_element 113 = .ok (.iconst 1, 1) := by decide +kernel
theorem zd_M_element_114 : decode zc_M_element 114 = .ok (.goto 4, 3) := by decide +kernel
theorem zd_M_element_117 : decode zc_M_element 117 = .ok (.iconst 0, 1) := by decide +kernel
theorem zd_M_element_118 : decode zc_M_element 118 = .ok (.iload_n 2, 1) := by decide +kernel
theorem zd_M_element_119 : decode zc_M_element 119 = .ok (.invokevirtual 112, 3) := by decide +kernel
theorem zd_M_element_122 : decode zc_M_element 122 = .ok (.aload_n 0, 1) := by decide +kernel
theorem zd_M_element_123 : decode zc_M_element 123 = .ok (.iload 5, 2) := by decide +kernel
theorem zd_M_element_125 : decode zc_M_element 125 = .ok (.invokevirtual 126, 3) := by decide +kernel
theorem zd_M_element_128 : decode zc_M_element 128 = .ok (.return_, 1) := by decide +kernel
theorem zd_M_element_129 : decode zc_M_element 129 = .ok (.iload 4, 2) := by decide +kernel
theorem zd_M_element_131 : decode zc_M_element 131 = .ok (.iconst 1, 1) := by decide +kernel
theorem zd_M_element_132 : decode zc_M_element 132 = .ok (.if_icmp .ne 7, 3) := by decide +kernel
theorem zd_M_element_135 : decode zc_M_element 135 = .ok (.iload_n 2, 1) := by decide +kernel
theorem zd_M_element_136 : decode zc_M_element 136 = .ok (.goto 7, 3) := by decide +kernel
theorem zd_M_element_139 : decode zc_M_element 139 = .ok (.aload_n 0, 1) := by decide +kernel
theorem zd_M_element_140 : decode zc_M_element 140 = .ok (.getfield 109, 3) := by decide +kernel
theorem zd_M_element_143 : decode zc_M_element 143 = .ok (.istore 6, 2) := by decide +kernel
theorem zd_M_element_145 : decode zc_M_element 145 = .ok (.aload_n 0, 1) := by decide +kernel
theorem zd_M_element_146 : decode zc_M_element 146 = .ok (.invokevirtual 116, 3) := by decide +kernel
theorem zd_M_element_149 : decode zc_M_element 149 = .ok (.istore 7, 2) := by decide +kernel
theorem zd_M_element_151 : decode zc_M_element 151 = .ok (.iload 4, 2) := by decide +kernel
theorem zd_M_element_153 : decode zc_M_element 153 = .ok (.iconst 1, 1) := by decide +kernel
theorem zd_M_element_154 : decode zc_M_element 154 = .ok (.if_icmp .ne 16, 3) := by decide +kernel
theorem zd_M_element_157 : decode zc_M_element 157 = .ok (.iload 7, 2) := by decide +kernel
theorem zd_M_element_159 : decode zc_M_element 159 = .ok (.iload_n 3, 1) := by decide +kernel
theorem zd_M_element_160 : decode zc_M_element 160 = .ok (.iconst 5, 1) := by decide +kernel
theorem zd_M_element_161 : decode zc_M_element 161 = .ok (.ishr, 1) := by decide +kernel
theorem zd_M_element_162 : decode zc_M_element 162 = .ok (.sipush 256, 3) := by decide +kernel
theorem zd_M_element_165 : decode zc_M_element 165 = .ok (.imul, 1) := by decide +kernel
theorem zd_M_element_166 : decode zc_M_element 166 = .ok (.iadd, 1) := by decide +kernel
theorem zd_M_element_167 : decode zc_M_element 167 = .ok (.goto 13, 3) := by decide +kernel
theorem zd_M_element_170 : decode zc_M_element 170 = .ok (.iload 7, 2) := by decide +kernel
theorem zd_M_element_172 : decode zc_M_element 172 = .ok (.aload_n 0, 1) := by decide +kernel
theorem zd_M_element_173 : decode zc_M_element 173 = .ok (.invokevirtual 116, 3) := by decide +kernel
theorem zd_M_element_176 : decode zc_M_element 176 = .ok (.bipush 8, 2) := by decide +kernel
theorem zd_M_element_178 : decode zc_M_element 178 = .ok (.ishl, 1) := by decide +kernel
theorem zd_M_element_179 : decode zc_M_element 179 = .ok (.ior, 1) := by decide +kernel
theorem zd_M_element_180 : decode zc_M_element 180 = .ok (.istore 7, 2) := by decide +kernel
theorem zd_M_element_182 : decode zc_M_element 182 = .ok (.aload_n 0, 1) := by decide +kernel
theorem zd_M_element_183 : decode zc_M_element 183 = .ok (.iload 7, 2) := by decide +kernel
theorem zd_M_element_185 : decode zc_M_element 185 = .ok (.ifCond .le 16, 3) := by decide +kernel
theorem zd_M_element_188 : decode zc_M_element 188 = .ok (.iload 7, 2) := by decide +kernel
theorem zd_M_element_190 : decode zc_M_element 190 = .ok (.aload_n 0, 1) := by decide +kernel
theorem zd_M_element_191 : decode zc_M_element 191 = .ok (.getfield 57, 3) := by decide +kernel
theorem zd_M_element_194 : decode zc_M_element 194 = .ok (.if_icmp .gt 7, 3) := by decide +kernel
theorem zd_M_element_197 : decode zc_M_element 197 = .ok (.iconst 1, 1) := by decide +kernel
theorem zd_M_element_198 : decode zc_M_element 198 = .ok (.goto 4, 3) := by decide +kernel
theorem zd_M_element_201 : decode zc_M_element 201 = .ok (.iconst 0, 1) := by decide +kernel
theorem zd_M_element_202 : decode zc_M_element 202 = .ok (.iload 6, 2) := by decide +kernel
theorem zd_M_element_204 : decode zc_M_element 204 = .ok (.invokevirtual 112, 3) := by decide +kernel
theorem zd_M_element_207 : decode zc_M_element 207 = .ok (.aload_n 0, 1) := by decide +kernel
theorem zd_M_element_208 : decode zc_M_element 208 = .ok (.aload_n 0, 1) := by decide +kernel
theorem zd_M_element_209 : decode zc_M_element 209 = .ok (.invokevirtual 123, 3) := by decide +kernel
theorem zd_M_element_212 : decode zc_M_element 212 = .ok (.iload 5, 2) := by decide +kernel
theorem zd_M_element_214 : decode zc_M_element 214 = .ok (.iadd, 1) := by decide +kernel
theorem zd_M_element_215 : decode zc_M_element 215 = .ok (.iload_n 1, 1) := by decide +kernel
theorem zd_M_element_216 : decode zc_M_element 216 = .ok (.if_icmp .gt 7, 3) := by decide +kernel
theorem zd_M_element_219 : decode zc_M_element 219 = .ok (.iconst 1, 1) := by decide +kernel
theorem zd_M_element_220 : decode zc_M_element 220 = .ok (.goto 4, 3) := by decide +kernel
theorem zd_M_element_223 : decode zc_M_element 223 = .ok (.iconst 0, 1) := by decide +kernel
theorem zd_M_element_224 : decode zc_M_element 224 = .ok (.iload_n 2, 1) := by decide +kernel
theorem zd_M_element_225 : decode zc_M_element 225 = .ok (.invokevirtual 112, 3) := by decide +kernel
theorem zd_M_element_228 : decode zc_M_element 228 = .ok (.aload_n 0, 1) := by decide +kernel
theorem zd_M_element_229 : decode zc_M_element 229 = .ok (.iload 5, 2) := by decide +kernel
theorem zd_M_element_231 : decode zc_M_element 231 = .ok (.iload 7, 2) := by decide +kernel
theorem zd_M_element_233 : decode zc_M_element 233 = .ok (.invokevirtual 129, 3) := by decide +kernel
theorem zd_M_element_236 : decode zc_M_element 236 = .ok (.return_, 1) := by decide +kernel
theorem zd_M_readOne_0 : decode zc_M_readOne 0 = .ok (.aload_n 0, 1) := by decide +kernel
theorem zd_M_readOne_1 : decode zc_M_readOne 1 = .ok (.invokevirtual 116, 3) := by decide +kernel
theorem zd_M_readOne_4 : decode zc_M_readOne 4 = .ok (.istore_n 1, 1) := by decide +kernel
theorem zd_M_readOne_5 : decode zc_M_readOne 5 = .ok (.iload_n 1, 1) := by decide +kernel
theorem zd_M_readOne_6 : decode zc_M_readOne 6 = .ok (.bipush 127, 2) := by decide +kernel
theorem zd_M_readOne_8 : decode zc_M_readOne 8 = .ok (.if_icmp .le 35, 3) := by decide +kernel
theorem zd_M_readOne_11 : decode zc_M_readOne 11 = .ok (.aload_n 0, 1) := by decide +kernel
theorem zd_M_readOne_12 : decode zc_M_readOne 12 = .ok (.invokevirtual 116, 3) := by decide +kernel
theorem zd_M_readOne_15 : decode zc_M_readOne 15 = .ok (.istore_n 2, 1) := by decide +kernel
theorem zd_M_readOne_16 : decode zc_M_readOne 16 = .ok (.aload_n 0, 1) := by decide +kernel
theorem zd_M_readOne_17 : decode zc_M_readOne 17 = .ok (.iload_n 2, 1) := by decide +kernel
theorem zd_M_readOne_18 : decode zc_M_readOne 18 = .ok (.sipush 128, 3) := by decide +kernel
theorem zd_M_readOne_21 : decode zc_M_readOne 21 = .ok (.if_icmp .ge 7, 3) := by decide +kernel
theorem zd_M_readOne_24 : decode zc_M_readOne 24 = .ok (.iconst 1, 1) := by decide +kernel
theorem zd_M_readOne_25 : decode zc_M_readOne 25 = .ok (.goto 4, 3) := by decide +kernel
theorem zd_M_readOne_28 : decode zc_M_readOne 28 = .ok (.iconst 0, 1) := by decide +kernel
theorem zd_M_readOne_29 : decode zc_M_readOne 29 = .ok (.iconst 1, 1) := by decide +kernel
theorem zd_M_readOne_30 : decode zc_M_readOne 30 = .ok (.invokevirtual 112, 3) := by decide +kernel
theorem zd_M_readOne_33 : decode zc_M_readOne 33 = .ok (.iload_n 1, 1) := by decide +kernel
theorem zd_M_readOne_34 : decode zc_M_readOne 34 = .ok (.bipush 127, 2) := by decide +kernel
theorem zd_M_readOne_36 : decode zc_M_readOne 36 = .ok (.iand, 1) := by decide +kernel
theorem zd_M_readOne_37 : decode zc_M_readOne 37 = .ok (.iload_n 2, 1) := by decide +kernel
theorem zd_M_readOne_38 : decode zc_M_readOne 38 = .ok (.bipush 7, 2) := by decide +kernel
theorem zd_M_readOne_40 : decode zc_M_readOne 40 = .ok (.ishl, 1) := by decide +kernel
theorem zd_M_readOne_41 : decode zc_M_readOne 41 = .ok (.ior, 1) := by decide +kernel
theorem zd_M_readOne_42 : decode zc_M_readOne 42 = .ok (.istore_n 1, 1) := by decide +kernel
theorem zd_M_readOne_43 : decode zc_M_readOne 43 = .ok (.aload_n 0, 1) := by decide +kernel
theorem zd_M_readOne_44 : decode zc_M_readOne 44 = .ok (.iload_n 1, 1) := by decide +kernel
theorem zd_M_readOne_45 : decode zc_M_readOne 45 = .ok (.sipush 160, 3) := by decide +kernel
theorem zd_M_readOne_48 : decode zc_M_readOne 48 = .ok (.if_icmp .gt 7, 3) := by decide +kernel
theorem zd_M_readOne_51 : decode zc_M_readOne 51 = .ok (.iconst 1, 1) := by decide +kernel
theorem zd_M_readOne_52 : decode zc_M_readOne 52 = .ok (.goto 4, 3) := by decide +kernel
theorem zd_M_readOne_55 : decode zc_M_readOne 55 = .ok (.iconst 0, 1) := by decide +kernel
theorem zd_M_readOne_56 : decode zc_M_readOne 56 = .ok (.aload_n 0, 1) := by decide +kernel
theorem zd_M_readOne_57 : decode zc_M_readOne 57 = .ok (.getfield 109, 3) := by decide +kernel
theorem zd_M_readOne_60 : decode zc_M_readOne 60 = .ok (.iconst 1, 1) := by decide +kernel
theorem zd_M_readOne_61 : decode zc_M_readOne 61 = .ok (.isub, 1) := by decide +kernel
theorem zd_M_readOne_62 : decode zc_M_readOne 62 = .ok (.invokevirtual 112, 3) := by decide +kernel
theorem zd_M_readOne_65 : decode zc_M_readOne 65 = .ok (.aload_n 0, 1) := by decide +kernel
theorem zd_M_readOne_66 : decode zc_M_readOne 66 = .ok (.getfield 106, 3) := by decide +kernel
theorem zd_M_readOne_69 : decode zc_M_readOne 69 = .ok (.ifCond .ge 24, 3) := by decide +kernel
theorem zd_M_readOne_72 : decode zc_M_readOne 72 = .ok (.aload_n 0, 1) := by decide +kernel
theorem zd_M_readOne_73 : decode zc_M_readOne 73 = .ok (.getfield 109, 3) := by decide +kernel
theorem zd_M_readOne_76 : decode zc_M_readOne 76 = .ok (.aload_n 0, 1) := by decide +kernel
theorem zd_M_readOne_77 : decode zc_M_readOne 77 = .ok (.getfield 13, 3) := by decide +kernel
theorem zd_M_readOne_80 : decode zc_M_readOne 80 = .ok (.iconst 1, 1) := by decide +kernel
theorem zd_M_readOne_81 : decode zc_M_readOne 81 = .ok (.iaload, 1) := by decide +kernel
theorem zd_M_readOne_82 : decode zc_M_readOne 82 = .ok (.if_icmp .ge 11, 3) := by decide +kernel
theorem zd_M_readOne_85 : decode zc_M_readOne 85 = .ok (.aload_n 0, 1) := by decide +kernel
theorem zd_M_readOne_86 : decode zc_M_readOne 86 = .ok (.iload_n 1, 1) := by decide +kernel
theorem zd_M_readOne_87 : decode zc_M_readOne 87 = .ok (.invokevirtual 132, 3) := by decide +kernel
theorem zd_M_readOne_90 : decode zc_M_readOne 90 = .ok (.goto (-25), 3) := by decide +kernel
theorem zd_M_readOne_93 : decode zc_M_readOne 93 = .ok (.aload_n 0, 1) := by decide +kernel
theorem zd_M_readOne_94 : decode zc_M_readOne 94 = .ok (.aload_n 0, 1) := by decide +kernel
theorem zd_M_readOne_95 : decode zc_M_readOne 95 = .ok (.invokevirtual 123, 3) := by decide +kernel
theorem zd_M_readOne_98 : decode zc_M_readOne 98 = .ok (.iload_n 1, 1) := by decide +kernel
theorem zd_M_readOne_99 : decode zc_M_readOne 99 = .ok (.if_icmp .ne 7, 3) := by decide +kernel
theorem zd_M_readOne_102 : decode zc_M_readOne 102 = .ok (.iconst 1, 1) := by decide +kernel
theorem zd_M_readOne_103 : decode zc_M_readOne 103 = .ok (.goto 4, 3) := by decide +kernel
theorem zd_M_readOne_106 : decode zc_M_readOne 106 = .ok (.iconst 0, 1) := by decide +kernel
theorem zd_M_readOne_107 : decode zc_M_readOne 107 = .ok (.aload_n 0, 1) := by decide +kernel
theorem zd_M_readOne_108 : decode zc_M_readOne 108 = .ok (.getfield 13, 3) := by decide +kernel
theorem zd_M_readOne_111 : decode zc_M_readOne 111 = .ok (.iconst 1, 1) := by decide +kernel
theorem zd_M_readOne_112 : decode zc_M_readOne 112 = .ok (.iaload, 1) := by decide +kernel
theorem zd_M_readOne_113 : decode zc_M_readOne 113 = .ok (.invokevirtual 112, 3) := by decide +kernel
theorem zd_M_readOne_116 : decode zc_M_readOne 116 = .ok (.return_, 1) := by decide +kernel
theorem zd_M_unpack_0 : decode zc_M_unpack 0 = .ok (.aload_n 0, 1) := by decide +kernel
theorem zd_M_unpack_1 : decode zc_M_unpack 1 = .ok (.iload_n 1, 1) := by decide +kernel
theorem zd_M_unpack_2 : decode zc_M_unpack 2 = .ok (.ifCond .eq 12, 3) := by decide +kernel
theorem zd_M_unpack_5 : decode zc_M_unpack 5 = .ok (.iload_n 1, 1) := by decide +kernel
theorem zd_M_unpack_6 : decode zc_M_unpack 6 = .ok (.iconst 1, 1) := by decide +kernel
theorem zd_M_unpack_7 : decode zc_M_unpack 7 = .ok (.if_icmp .eq 7, 3) := by decide +kernel
theorem zd_M_unpack_10 : decode zc_M_unpack 10 = .ok (.iconst 1, 1) := by decide +kernel
theorem zd_M_unpack_11 : decode zc_M_unpack 11 = .ok (.goto 4, 3) := by decide +kernel
theorem zd_M_unpack_14 : decode zc_M_unpack 14 = .ok (.iconst 0, 1) := by decide +kernel
theorem zd_M_unpack_15 : decode zc_M_unpack 15 = .ok (.iconst 0, 1) := by decide +kernel
theorem zd_M_unpack_16 : decode zc_M_unpack 16 = .ok (.invokevirtual 34, 3) := by decide +kernel
theorem zd_M_unpack_19 : decode zc_M_unpack 19 = .ok (.ifCond .eq 5, 3) := by decide +kernel
theorem zd_M_unpack_22 : decode zc_M_unpack 22 = .ok (.iconst 0, 1) := by decide +kernel
theorem zd_M_unpack_23 : decode zc_M_unpack 23 = .ok (.ireturn, 1) := by decide +kernel
theorem zd_M_unpack_24 : decode zc_M_unpack 24 = .ok (.aload_n 0, 1) := by decide +kernel
theorem zd_M_unpack_25 : decode zc_M_unpack 25 = .ok (.invokevirtual 100, 3) := by decide +kernel
theorem zd_M_unpack_28 : decode zc_M_unpack 28 = .ok (.aload_n 0, 1) := by decide +kernel
theorem zd_M_unpack_29 : decode zc_M_unpack 29 = .ok (.iconst 0, 1) := by decide +kernel
theorem zd_M_unpack_30 : decode zc_M_unpack 30 = .ok (.putfield 109, 3) := by decide +kernel
theorem zd_M_unpack_33 : decode zc_M_unpack 33 = .ok (.aload_n 0, 1) := by decide +kernel
theorem zd_M_unpack_34 : decode zc_M_unpack 34 = .ok (.iconst (-1), 1) := by decide +kernel
theorem zd_M_unpack_35 : decode zc_M_unpack 35 = .ok (.putfield 106, 3) := by decide +kernel
theorem zd_M_unpack_38 : decode zc_M_unpack 38 = .ok (.iload_n 1, 1) := by decide +kernel
theorem zd_M_unpack_39 : decode zc_M_unpack 39 = .ok (.ifCond .ne 10, 3) := by decide +kernel
theorem zd_M_unpack_42 : decode zc_M_unpack 42 = .ok (.aload_n 0, 1) := by decide +kernel
theorem zd_M_unpack_43 : decode zc_M_unpack 43 = .ok (.invokevirtual 135, 3) := by decide +kernel
theorem zd_M_unpack_46 : decode zc_M_unpack 46 = .ok (.goto 7, 3) := by decide +kernel
theorem zd_M_unpack_49 : decode zc_M_unpack 49 = .ok (.aload_n 0, 1) := by decide +kernel
theorem zd_M_unpack_50 : decode zc_M_unpack 50 = .ok (.invokevirtual 138, 3) := by decide +kernel
theorem zd_M_unpack_53 : decode zc_M_unpack 53 = .ok (.aload_n 0, 1) := by decide +kernel
theorem zd_M_unpack_54 : decode zc_M_unpack 54 = .ok (.getfield 106, 3) := by decide +kernel
theorem zd_M_unpack_57 : decode zc_M_unpack 57 = .ok (.ifCond .lt 10, 3) := by decide +kernel
theorem zd_M_unpack_60 : decode zc_M_unpack 60 = .ok (.iconst (-1), 1) := by decide +kernel
theorem zd_M_unpack_61 : decode zc_M_unpack 61 = .ok (.aload_n 0, 1) := by decide +kernel
theorem zd_M_unpack_62 : decode zc_M_unpack 62 = .ok (.getfield 106, 3) := by decide +kernel
theorem zd_M_unpack_65 : decode zc_M_unpack 65 = .ok (.isub, 1) := by decide +kernel
theorem zd_M_unpack_66 : decode zc_M_unpack 66 = .ok (.ireturn, 1) := by decide +kernel
theorem zd_M_unpack_67 : decode zc_M_unpack 67 = .ok (.aload_n 0, 1) := by decide +kernel
theorem zd_M_unpack_68 : decode zc_M_unpack 68 = .ok (.getfield 13, 3) := by decide +kernel
theorem zd_M_unpack_71 : decode zc_M_unpack 71 = .ok (.iconst 0, 1) := by decide +kernel
theorem zd_M_unpack_72 : decode zc_M_unpack 72 = .ok (.aload_n 0, 1) := by decide +kernel
theorem zd_M_unpack_73 : decode zc_M_unpack 73 = .ok (.invokevirtual 123, 3) := by decide +kernel
theorem zd_M_unpack_76 : decode zc_M_unpack 76 = .ok (.iastore, 1) := by decide +kernel
theorem zd_M_unpack_77 : decode zc_M_unpack 77 = .ok (.iconst 0, 1) := by decide +kernel
theorem zd_M_unpack_78 : decode zc_M_unpack 78 = .ok (.istore_n 2, 1) := by decide +kernel
theorem zd_M_unpack_79 : decode zc_M_unpack 79 = .ok (.iload_n 2, 1) := by decide +kernel
theorem zd_M_unpack_80 : decode zc_M_unpack 80 = .ok (.aload_n 0, 1) := by decide +kernel
theorem zd_M_unpack_81 : decode zc_M_unpack 81 = .ok (.getfield 13, 3) := by decide +kernel
theorem zd_M_unpack_84 : decode zc_M_unpack 84 = .ok (.iconst 0, 1) := by decide +kernel
theorem zd_M_unpack_85 : decode zc_M_unpack 85 = .ok (.iaload, 1) := by decide +kernel
theorem zd_M_unpack_86 : decode zc_M_unpack 86 = .ok (.if_icmp .ge 26, 3) := by decide +kernel
theorem zd_M_unpack_89 : decode zc_M_unpack 89 = .ok (.aload_n 0, 1) := by decide +kernel
theorem zd_M_unpack_90 : decode zc_M_unpack 90 = .ok (.getfield 7, 3) := by decide +kernel
theorem zd_M_unpack_93 : decode zc_M_unpack 93 = .ok (.iload_n 2, 1) := by decide +kernel
theorem zd_M_unpack_94 : decode zc_M_unpack 94 = .ok (.aload_n 0, 1) := by decide +kernel
theorem zd_M_unpack_95 : decode zc_M_unpack 95 = .ok (.getfield 16, 3) := by decide +kernel
theorem zd_M_unpack_98 : decode zc_M_unpack 98 = .ok (.aload_n 0, 1) := by decide +kernel
theorem zd_M_unpack_99 : decode zc_M_unpack 99 = .ok (.getfield 54, 3) := by decide +kernel
theorem zd_M_unpack_102 : decode zc_M_unpack 102 = .ok (.iload_n 2, 1) := by decide +kernel
theorem zd_M_unpack_103 : decode zc_M_unpack 103 = .ok (.iadd, 1) := by decide +kernel
theorem zd_M_unpack_104 : decode zc_M_unpack 104 = .ok (.iaload, 1) := by decide +kernel
theorem zd_M_unpack_105 : decode zc_M_unpack 105 = .ok (.iastore, 1) := by decide +kernel
theorem zd_M_unpack_106 : decode zc_M_unpack 106 = .ok (.iinc 2 1, 3) := by decide +kernel
theorem zd_M_unpack_109 : decode zc_M_unpack 109 = .ok (.goto (-30), 3) := by decide +kernel
theorem zd_M_unpack_112 : decode zc_M_unpack 112 = .ok (.aload_n 0, 1) := by decide +kernel
theorem zd_M_unpack_113 : decode zc_M_unpack 113 = .ok (.getfield 13, 3) := by decide +kernel
theorem zd_M_unpack_116 : decode zc_M_unpack 116 = .ok (.iconst 0, 1) := by decide +kernel
theorem zd_M_unpack_117 : decode zc_M_unpack 117 = .ok (.iaload, 1) := by decide +kernel
theorem zd_M_unpack_118 : decode zc_M_unpack 118 = .ok (.ireturn, 1) := by decide +kernel
theorem zd_M_crc_0 : decode zc_M_crc 0 = .ok (.aload_n 0, 1) := by decide +kernel
theorem zd_M_crc_1 : decode zc_M_crc 1 = .ok (.iload_n 1, 1) := by decide +kernel
theorem zd_M_crc_2 : decode zc_M_crc 2 = .ok (.invokestatic 26, 3) := by decide +kernel
theorem zd_M_crc_5 : decode zc_M_crc 5 = .ok (.ifCond .ne 7, 3) := by decide +kernel
theorem zd_M_crc_8 : decode zc_M_crc 8 = .ok (.iconst 1, 1) := by decide +kernel
theorem zd_M_crc_9 : decode zc_M_crc 9 = .ok (.goto 4, 3) := by decide +kernel
theorem zd_M_crc_12 : decode zc_M_crc 12 = .ok (.iconst 0, 1) := by decide +kernel
theorem zd_M_crc_13 : decode zc_M_crc 13 = .ok (.iconst 0, 1) := by decide +kernel
theorem zd_M_crc_14 : decode zc_M_crc 14 = .ok (.invokevirtual 34, 3) := by decide +kernel
theorem zd_M_crc_17 : decode zc_M_crc 17 = .ok (.ifCond .eq 5, 3) := by decide +kernel
theorem zd_M_crc_20 : decode zc_M_crc 20 = .ok (.iconst 0, 1) := by decide +kernel
theorem zd_M_crc_21 : decode zc_M_crc 21 = .ok (.ireturn, 1) := by decide +kernel
theorem zd_M_crc_22 : decode zc_M_crc 22 = .ok (.iconst (-1), 1) := by decide +kernel
theorem zd_M_crc_23 : decode zc_M_crc 23 = .ok (.istore_n 2, 1) := by decide +kernel
theorem zd_M_crc_24 : decode zc_M_crc 24 = .ok (.iconst 0, 1) := by decide +kernel
theorem zd_M_crc_25 : decode zc_M_crc 25 = .ok (.istore_n 3, 1) := by decide +kernel
theorem zd_M_crc_26 : decode zc_M_crc 26 = .ok (.iload_n 3, 1) := by decide +kernel
theorem zd_M_crc_27 : decode zc_M_crc 27 = .ok (.aload_n 0, 1) := by decide +kernel
theorem zd_M_crc_28 : decode zc_M_crc 28 = .ok (.getfield 13, 3) := by decide +kernel
theorem zd_M_crc_31 : decode zc_M_crc 31 = .ok (.iload_n 1, 1) := by decide +kernel
theorem zd_M_crc_32 : decode zc_M_crc 32 = .ok (.iaload, 1) := by decide +kernel
theorem zd_M_crc_33 : decode zc_M_crc 33 = .ok (.if_icmp .ge 68, 3) := by decide +kernel
theorem zd_M_crc_36 : decode zc_M_crc 36 = .ok (.iload_n 2, 1) := by decide +kernel
theorem zd_M_crc_37 : decode zc_M_crc 37 = .ok (.aload_n 0, 1) := by decide +kernel
theorem zd_M_crc_38 : decode zc_M_crc 38 = .ok (.getfield 7, 3) := by decide +kernel
theorem zd_M_crc_41 : decode zc_M_crc 41 = .ok (.sipush 200, 3) := by decide +kernel
theorem zd_M_crc_44 : decode zc_M_crc 44 = .ok (.iload_n 1, 1) := by decide +kernel
theorem zd_M_crc_45 : decode zc_M_crc 45 = .ok (.imul, 1) := by decide +kernel
theorem zd_M_crc_46 : decode zc_M_crc 46 = .ok (.iload_n 3, 1) := by decide +kernel
theorem zd_M_crc_47 : decode zc_M_crc 47 = .ok (.iadd, 1) := by decide +kernel
theorem zd_M_crc_48 : decode zc_M_crc 48 = .ok (.iaload, 1) := by decide +kernel
theorem zd_M_crc_49 : decode zc_M_crc 49 = .ok (.ixor, 1) := by decide +kernel
theorem zd_M_crc_50 : decode zc_M_crc 50 = .ok (.istore_n 2, 1) := by decide +kernel
theorem zd_M_crc_51 : decode zc_M_crc 51 = .ok (.iconst 0, 1) := by decide +kernel
theorem zd_M_crc_52 : decode zc_M_crc 52 = .ok (.istore 4, 2) := by decide +kernel
theorem zd_M_crc_54 : decode zc_M_crc 54 = .ok (.iload 4, 2) := by decide +kernel
theorem zd_M_crc_56 : decode zc_M_crc 56 = .ok (.bipush 8, 2) := by decide +kernel
theorem zd_M_crc_58 : decode zc_M_crc 58 = .ok (.if_icmp .ge 37, 3) := by decide +kernel
theorem zd_M_crc_61 : decode zc_M_crc 61 = .ok (.iload_n 2, 1) := by decide +kernel
theorem zd_M_crc_62 : decode zc_M_crc 62 = .ok (.iconst 1, 1) := by decide +kernel
theorem zd_M_crc_63 : decode zc_M_crc 63 = .ok (.iand, 1) := by decide +kernel
theorem zd_M_crc_64 : decode zc_M_crc 64 = .ok (.iconst 1, 1) := by decide +kernel
theorem zd_M_crc_65 : decode zc_M_crc 65 = .ok (.if_icmp .ne 7, 3) := by decide +kernel
theorem zd_M_crc_68 : decode zc_M_crc 68 = .ok (.iconst 1, 1) := by decide +kernel
theorem zd_M_crc_69 : decode zc_M_crc 69 = .ok (.goto 4, 3) := by decide +kernel
theorem zd_M_crc_72 : decode zc_M_crc 72 = .ok (.iconst 0, 1) := by decide +kernel
theorem zd_M_crc_73 : decode zc_M_crc 73 = .ok (.istore 5, 2) := by decide +kernel
theorem zd_M_crc_75 : decode zc_M_crc 75 = .ok (.iload_n 2, 1) := by decide +kernel
theorem zd_M_crc_76 : decode zc_M_crc 76 = .ok (.iconst 1, 1) := by decide +kernel
theorem zd_M_crc_77 : decode zc_M_crc 77 = .ok (.iushr, 1) := by decide +kernel
theorem zd_M_crc_78 : decode zc_M_crc 78 = .ok (.istore_n 2, 1) := by decide +kernel
theorem zd_M_crc_79 : decode zc_M_crc 79 = .ok (.iload 5, 2) := by decide +kernel
theorem zd_M_crc_81 : decode zc_M_crc 81 = .ok (.ifCond .eq 8, 3) := by decide +kernel
theorem zd_M_crc_84 : decode zc_M_crc 84 = .ok (.iload_n 2, 1) := by decide +kernel
theorem zd_M_crc_85 : decode zc_M_crc 85 = .ok (.ldc 141, 2) := by decide +kernel
theorem zd_M_crc_87 : decode zc_M_crc 87 = .ok (.ixor, 1) := by decide +kernel
theorem zd_M_crc_88 : decode zc_M_crc 88 = .ok (.istore_n 2, 1) := by decide +kernel
theorem zd_M_crc_89 : decode zc_M_crc 89 = .ok (.iinc 4 1, 3) := by decide +kernel
theorem zd_M_crc_92 : decode zc_M_crc 92 = .ok (.goto (-38), 3) := by decide +kernel
theorem zd_M_crc_95 : decode zc_M_crc 95 = .ok (.iinc 3 1, 3) := by decide +kernel
theorem zd_M_crc_98 : decode zc_M_crc 98 = .ok (.goto (-72), 3) := by decide +kernel
theorem zd_M_crc_101 : decode zc_M_crc 101 = .ok (.iload_n 2, 1) := by decide +kernel
theorem zd_M_crc_102 : decode zc_M_crc 102 = .ok (.iconst (-1), 1) := by decide +kernel
theorem zd_M_crc_103 : decode zc_M_crc 103 = .ok (.ixor, 1) := by decide +kernel
theorem zd_M_crc_104 : decode zc_M_crc 104 = .ok (.ireturn, 1) := by decide +kernel
theorem zd_M_turn_0 : decode zc_M_turn 0 = .ok (.iload_n 0, 1) := by decide +kernel
theorem zd_M_turn_1 : decode zc_M_turn 1 = .ok (.iload_n 1, 1) := by decide +kernel
theorem zd_M_turn_2 : decode zc_M_turn 2 = .ok (.ishl, 1) := by decide +kernel
theorem zd_M_turn_3 : decode zc_M_turn 3 = .ok (.iload_n 0, 1) := by decide +kernel
theorem zd_M_turn_4 : decode zc_M_turn 4 = .ok (.bipush 32, 2) := by decide +kernel
theorem zd_M_turn_6 : decode zc_M_turn 6 = .ok (.iload_n 1, 1) := by decide +kernel
theorem zd_M_turn_7 : decode zc_M_turn 7 = .ok (.isub, 1) := by decide +kernel
theorem zd_M_turn_8 : decode zc_M_turn 8 = .ok (.iushr, 1) := by decide +kernel
theorem zd_M_turn_9 : decode zc_M_turn 9 = .ok (.ior, 1) := by decide +kernel
theorem zd_M_turn_10 : decode zc_M_turn 10 = .ok (.ireturn, 1) := by decide +kernel
theorem zd_M_rowInt_0 : decode zc_M_rowInt 0 = .ok (.sipush 200, 3) := by decide +kernel
theorem zd_M_rowInt_3 : decode zc_M_rowInt 3 = .ok (.iload_n 1, 1) := by decide +kernel
theorem zd_M_rowInt_4 : decode zc_M_rowInt 4 = .ok (.imul, 1) := by decide +kernel
theorem zd_M_rowInt_5 : decode zc_M_rowInt 5 = .ok (.iload_n 2, 1) := by decide +kernel
theorem zd_M_rowInt_6 : decode zc_M_rowInt 6 = .ok (.iadd, 1) := by decide +kernel
theorem zd_M_rowInt_7 : decode zc_M_rowInt 7 = .ok (.istore_n 3, 1) := by decide +kernel
theorem zd_M_rowInt_8 : decode zc_M_rowInt 8 = .ok (.aload_n 0, 1) := by decide +kernel
theorem zd_M_rowInt_9 : decode zc_M_rowInt 9 = .ok (.getfield 7, 3) := by decide +kernel
theorem zd_M_rowInt_12 : decode zc_M_rowInt 12 = .ok (.iload_n 3, 1) := by decide +kernel
theorem zd_M_rowInt_13 : decode zc_M_rowInt 13 = .ok (.iaload, 1) := by decide +kernel
theorem zd_M_rowInt_14 : decode zc_M_rowInt 14 = .ok (.aload_n 0, 1) := by decide +kernel
theorem zd_M_rowInt_15 : decode zc_M_rowInt 15 = .ok (.getfield 7, 3) := by decide +kernel
theorem zd_M_rowInt_18 : decode zc_M_rowInt 18 = .ok (.iload_n 3, 1) := by decide +kernel
theorem zd_M_rowInt_19 : decode zc_M_rowInt 19 = .ok (.iconst 1, 1) := by decide +kernel
theorem zd_M_rowInt_20 : decode zc_M_rowInt 20 = .ok (.iadd, 1) := by decide +kernel
theorem zd_M_rowInt_21 : decode zc_M_rowInt 21 = .ok (.iaload, 1) := by decide +kernel
theorem zd_M_rowInt_22 : decode zc_M_rowInt 22 = .ok (.aload_n 0, 1) := by decide +kernel
theorem zd_M_rowInt_23 : decode zc_M_rowInt 23 = .ok (.getfield 7, 3) := by decide +kernel
theorem zd_M_rowInt_26 : decode zc_M_rowInt 26 = .ok (.iload_n 3, 1) := by decide +kernel
theorem zd_M_rowInt_27 : decode zc_M_rowInt 27 = .ok (.iconst 2, 1) := by decide +kernel
theorem zd_M_rowInt_28 : decode zc_M_rowInt 28 = .ok (.iadd, 1) := by decide +kernel
theorem zd_M_rowInt_29 : decode zc_M_rowInt 29 = .ok (.iaload, 1) := by decide +kernel
theorem zd_M_rowInt_30 : decode zc_M_rowInt 30 = .ok (.aload_n 0, 1) := by decide +kernel
theorem zd_M_rowInt_31 : decode zc_M_rowInt 31 = .ok (.getfield 7, 3) := by decide +kernel
theorem zd_M_rowInt_34 : decode zc_M_rowInt 34 = .ok (.iload_n 3, 1) := by decide +kernel
theorem zd_M_rowInt_35 : decode zc_M_rowInt 35 = .ok (.iconst 3, 1) := by decide +kernel
theorem zd_M_rowInt_36 : decode zc_M_rowInt 36 = .ok (.iadd, 1) := by decide +kernel
theorem zd_M_rowInt_37 : decode zc_M_rowInt 37 = .ok (.iaload, 1) := by decide +kernel
theorem zd_M_rowInt_38 : decode zc_M_rowInt 38 = .ok (.invokestatic 46, 3) := by decide +kernel
theorem zd_M_rowInt_41 : decode zc_M_rowInt 41 = .ok (.ireturn, 1) := by decide +kernel
theorem zd_M_lane_0 : decode zc_M_lane 0 = .ok (.iload_n 3, 1) := by decide +kernel
theorem zd_M_lane_1 : decode zc_M_lane 1 = .ok (.istore 4, 2) := by decide +kernel
theorem zd_M_lane_3 : decode zc_M_lane 3 = .ok (.iconst 0, 1) := by decide +kernel
theorem zd_M_lane_4 : decode zc_M_lane 4 = .ok (.istore 5, 2) := by decide +kernel
theorem zd_M_lane_6 : decode zc_M_lane 6 = .ok (.iload 5, 2) := by decide +kernel
theorem zd_M_lane_8 : decode zc_M_lane 8 = .ok (.bipush 16, 2) := by decide +kernel
theorem zd_M_lane_10 : decode zc_M_lane 10 = .ok (.iadd, 1) := by decide +kernel
theorem zd_M_lane_11 : decode zc_M_lane 11 = .ok (.aload_n 0, 1) := by decide +kernel
theorem zd_M_lane_12 : decode zc_M_lane 12 = .ok (.getfield 13, 3) := by decide +kernel
theorem zd_M_lane_15 : decode zc_M_lane 15 = .ok (.iload_n 1, 1) := by decide +kernel
theorem zd_M_lane_16 : decode zc_M_lane 16 = .ok (.iaload, 1) := by decide +kernel
theorem zd_M_lane_17 : decode zc_M_lane 17 = .ok (.if_icmp .gt 36, 3) := by decide +kernel
theorem zd_M_lane_20 : decode zc_M_lane 20 = .ok (.iload 4, 2) := by decide +kernel
theorem zd_M_lane_22 : decode zc_M_lane 22 = .ok (.aload_n 0, 1) := by decide +kernel
theorem zd_M_lane_23 : decode zc_M_lane 23 = .ok (.iload_n 1, 1) := by decide +kernel
theorem zd_M_lane_24 : decode zc_M_lane 24 = .ok (.iload 5, 2) := by decide +kernel
theorem zd_M_lane_26 : decode zc_M_lane 26 = .ok (.iconst 4, 1) := by decide +kernel
theorem zd_M_lane_27 : decode zc_M_lane 27 = .ok (.iload_n 2, 1) := by decide +kernel
theorem zd_M_lane_28 : decode zc_M_lane 28 = .ok (.imul, 1) := by decide +kernel
theorem zd_M_lane_29 : decode zc_M_lane 29 = .ok (.iadd, 1) := by decide +kernel
theorem zd_M_lane_30 : decode zc_M_lane 30 = .ok (.invokevirtual 142, 3) := by decide +kernel
theorem zd_M_lane_33 : decode zc_M_lane 33 = .ok (.ldc 145, 2) := by decide +kernel
theorem zd_M_lane_35 : decode zc_M_lane 35 = .ok (.imul, 1) := by decide +kernel
theorem zd_M_lane_36 : decode zc_M_lane 36 = .ok (.iadd, 1) := by decide +kernel
theorem zd_M_lane_37 : decode zc_M_lane 37 = .ok (.bipush 13, 2) := by decide +kernel
theorem zd_M_lane_39 : decode zc_M_lane 39 = .ok (.invokestatic 146, 3) := by decide +kernel
theorem zd_M_lane_42 : decode zc_M_lane 42 = .ok (.ldc 53, 2) := by decide +kernel
theorem zd_M_lane_44 : decode zc_M_lane 44 = .ok (.imul, 1) := by decide +kernel
theorem zd_M_lane_45 : decode zc_M_lane 45 = .ok (.istore 4, 2) := by decide +kernel
theorem zd_M_lane_47 : decode zc_M_lane 47 = .ok (.iinc 5 16, 3) := by decide +kernel
theorem zd_M_lane_50 : decode zc_M_lane 50 = .ok (.goto (-44), 3) := by decide +kernel
theorem zd_M_lane_53 : decode zc_M_lane 53 = .ok (.iload 4, 2) := by decide +kernel
theorem zd_M_lane_55 : decode zc_M_lane 55 = .ok (.ireturn, 1) := by decide +kernel
theorem zd_M_hash_0 : decode zc_M_hash 0 = .ok (.aload_n 0, 1) := by decide +kernel
theorem zd_M_hash_1 : decode zc_M_hash 1 = .ok (.iload_n 1, 1) := by decide +kernel
theorem zd_M_hash_2 : decode zc_M_hash 2 = .ok (.invokestatic 26, 3) := by decide +kernel
theorem zd_M_hash_5 : decode zc_M_hash 5 = .ok (.ifCond .ne 7, 3) := by decide +kernel
theorem zd_M_hash_8 : decode zc_M_hash 8 = .ok (.iconst 1, 1) := by decide +kernel
theorem zd_M_hash_9 : decode zc_M_hash 9 = .ok (.goto 4, 3) := by decide +kernel
theorem zd_M_hash_12 : decode zc_M_hash 12 = .ok (.iconst 0, 1) := by decide +kernel
theorem zd_M_hash_13 : decode zc_M_hash 13 = .ok (.iconst 0, 1) := by decide +kernel
theorem zd_M_hash_14 : decode zc_M_hash 14 = .ok (.invokevirtual 34, 3) := by decide +kernel
theorem zd_M_hash_17 : decode zc_M_hash 17 = .ok (.ifCond .eq 5, 3) := by decide +kernel
theorem zd_M_hash_20 : decode zc_M_hash 20 = .ok (.iconst 0, 1) := by decide +kernel
theorem zd_M_hash_21 : decode zc_M_hash 21 = .ok (.ireturn, 1) := by decide +kernel
theorem zd_M_hash_22 : decode zc_M_hash 22 = .ok (.aload_n 0, 1) := by decide +kernel
theorem zd_M_hash_23 : decode zc_M_hash 23 = .ok (.getfield 13, 3) := by decide +kernel
theorem zd_M_hash_26 : decode zc_M_hash 26 = .ok (.iload_n 1, 1) := by decide +kernel
theorem zd_M_hash_27 : decode zc_M_hash 27 = .ok (.iaload, 1) := by decide +kernel
theorem zd_M_hash_28 : decode zc_M_hash 28 = .ok (.istore_n 3, 1) := by decide +kernel
theorem zd_M_hash_29 : decode zc_M_hash 29 = .ok (.iload_n 2, 1) := by decide +kernel
theorem zd_M_hash_30 : decode zc_M_hash 30 = .ok (.ldc 149, 2) := by decide +kernel
theorem zd_M_hash_32 : decode zc_M_hash 32 = .ok (.iadd, 1) := by decide +kernel
theorem zd_M_hash_33 : decode zc_M_hash 33 = .ok (.istore 4, 2) := by decide +kernel
theorem zd_M_hash_35 : decode zc_M_hash 35 = .ok (.iload_n 3, 1) := by decide +kernel
theorem zd_M_hash_36 : decode zc_M_hash 36 = .ok (.bipush 16, 2) := by decide +kernel
theorem zd_M_hash_38 : decode zc_M_hash 38 = .ok (.if_icmp .lt 67, 3) := by decide +kernel
theorem zd_M_hash_41 : decode zc_M_hash 41 = .ok (.aload_n 0, 1) := by decide +kernel
theorem zd_M_hash_42 : decode zc_M_hash 42 = .ok (.iload_n 1, 1) := by decide +kernel
theorem zd_M_hash_43 : decode zc_M_hash 43 = .ok (.iconst 0, 1) := by decide +kernel
theorem zd_M_hash_44 : decode zc_M_hash 44 = .ok (.iload_n 2, 1) := by decide +kernel
theorem zd_M_hash_45 : decode zc_M_hash 45 = .ok (.ldc 53, 2) := by decide +kernel
theorem zd_M_hash_47 : decode zc_M_hash 47 = .ok (.iadd, 1) := by decide +kernel
theorem zd_M_hash_48 : decode zc_M_hash 48 = .ok (.ldc 145, 2) := by decide +kernel
theorem zd_M_hash_50 : decode zc_M_hash 50 = .ok (.iadd, 1) := by decide +kernel
theorem zd_M_hash_51 : decode zc_M_hash 51 = .ok (.invokevirtual 150, 3) := by decide +kernel
theorem zd_M_hash_54 : decode zc_M_hash 54 = .ok (.iconst 1, 1) := by decide +kernel
theorem zd_M_hash_55 : decode zc_M_hash 55 = .ok (.invokestatic 146, 3) := by decide +kernel
theorem zd_M_hash_58 : decode zc_M_hash 58 = .ok (.aload_n 0, 1) := by decide +kernel
theorem zd_M_hash_59 : decode zc_M_hash 59 = .ok (.iload_n 1, 1) := by decide +kernel
theorem zd_M_hash_60 : decode zc_M_hash 60 = .ok (.iconst 1, 1) := by decide +kernel
theorem zd_M_hash_61 : decode zc_M_hash 61 = .ok (.iload_n 2, 1) := by decide +kernel
theorem zd_M_hash_62 : decode zc_M_hash 62 = .ok (.ldc 145, 2) := by decide +kernel
theorem zd_M_hash_64 : decode zc_M_hash 64 = .ok (.iadd, 1) := by decide +kernel
theorem zd_M_hash_65 : decode zc_M_hash 65 = .ok (.invokevirtual 150, 3) := by decide +kernel
theorem zd_M_hash_68 : decode zc_M_hash 68 = .ok (.bipush 7, 2) := by decide +kernel
theorem zd_M_hash_70 : decode zc_M_hash 70 = .ok (.invokestatic 146, 3) := by decide +kernel
theorem zd_M_hash_73 : decode zc_M_hash 73 = .ok (.iadd, 1) := by decide +kernel
theorem zd_M_hash_74 : decode zc_M_hash 74 = .ok (.aload_n 0, 1) := by decide +kernel
theorem zd_M_hash_75 : decode zc_M_hash 75 = .ok (.iload_n 1, 1) := by decide +kernel
theorem zd_M_hash_76 : decode zc_M_hash 76 = .ok (.iconst 2, 1) := by decide +kernel
theorem zd_M_hash_77 : decode zc_M_hash 77 = .ok (.iload_n 2, 1) := by decide +kernel
theorem zd_M_hash_78 : decode zc_M_hash 78 = .ok (.invokevirtual 150, 3) := by decide +kernel
theorem zd_M_hash_81 : decode zc_M_hash 81 = .ok (.bipush 12, 2) := by decide +kernel
theorem zd_M_hash_83 : decode zc_M_hash 83 = .ok (.invokestatic 146, 3) := by decide +kernel
theorem zd_M_hash_86 : decode zc_M_hash 86 = .ok (.iadd, 1) := by decide +kernel
theorem zd_M_hash_87 : decode zc_M_hash 87 = .ok (.aload_n 0, 1) := by decide +kernel
theorem zd_M_hash_88 : decode zc_M_hash 88 = .ok (.iload_n 1, 1) := by decide +kernel
theorem zd_M_hash_89 : decode zc_M_hash 89 = .ok (.iconst 3, 1) := by decide +kernel
theorem zd_M_hash_90 : decode zc_M_hash 90 = .ok (.iload_n 2, 1) := by decide +kernel
theorem zd_M_hash_91 : decode zc_M_hash 91 = .ok (.ldc 53, 2) := by decide +kernel
theorem zd_M_hash_93 : decode zc_M_hash 93 = .ok (.isub, 1) := by decide +kernel
theorem zd_M_hash_94 : decode zc_M_hash 94 = .ok (.invokevirtual 150, 3) := by decide +kernel
theorem zd_M_hash_97 : decode zc_M_hash 97 = .ok (.bipush 18, 2) := by decide +kernel
theorem zd_M_hash_99 : decode zc_M_hash 99 = .ok (.invokestatic 146, 3) := by decide +kernel
theorem zd_M_hash_102 : decode zc_M_hash 102 = .ok (.iadd, 1) := by decide +kernel
theorem zd_M_hash_103 : decode zc_M_hash 103 = .ok (.istore 4, 2) := by decide +kernel
theorem zd_M_hash_105 : decode zc_M_hash 105 = .ok (.iload 4, 2) := by decide +kernel
theorem zd_M_hash_107 : decode zc_M_hash 107 = .ok (.iload_n 3, 1) := by decide +kernel
theorem zd_M_hash_108 : decode zc_M_hash 108 = .ok (.iadd, 1) := by decide +kernel
theorem zd_M_hash_109 : decode zc_M_hash 109 = .ok (.istore 4, 2) := by decide +kernel
theorem zd_M_hash_111 : decode zc_M_hash 111 = .ok (.iload_n 3, 1) := by decide +kernel
theorem zd_M_hash_112 : decode zc_M_hash 112 = .ok (.bipush 16, 2) := by decide +kernel
theorem zd_M_hash_114 : decode zc_M_hash 114 = .ok (.idiv, 1) := by decide +kernel
theorem zd_M_hash_115 : decode zc_M_hash 115 = .ok (.bipush 16, 2) := by decide +kernel
theorem zd_M_hash_117 : decode zc_M_hash 117 = .ok (.imul, 1) := by decide +kernel
theorem zd_M_hash_118 : decode zc_M_hash 118 = .ok (.istore 5, 2) := by decide +kernel
theorem zd_M_hash_120 : decode zc_M_hash 120 = .ok (.iload 5, 2) := by decide +kernel
theorem zd_M_hash_122 : decode zc_M_hash 122 = .ok (.istore 6, 2) := by decide +kernel
theorem zd_M_hash_124 : decode zc_M_hash 124 = .ok (.iload 6, 2) := by decide +kernel
theorem zd_M_hash_126 : decode zc_M_hash 126 = .ok (.iconst 4, 1) := by decide +kernel
theorem zd_M_hash_127 : decode zc_M_hash 127 = .ok (.iadd, 1) := by decide +kernel
theorem zd_M_hash_128 : decode zc_M_hash 128 = .ok (.iload_n 3, 1) := by decide +kernel
theorem zd_M_hash_129 : decode zc_M_hash 129 = .ok (.if_icmp .gt 38, 3) := by decide +kernel
theorem zd_M_hash_132 : decode zc_M_hash 132 = .ok (.iload 4, 2) := by decide +kernel
theorem zd_M_hash_134 : decode zc_M_hash 134 = .ok (.aload_n 0, 1) := by decide +kernel
theorem zd_M_hash_135 : decode zc_M_hash 135 = .ok (.iload_n 1, 1) := by decide +kernel
theorem zd_M_hash_136 : decode zc_M_hash 136 = .ok (.iload 6, 2) := by decide +kernel
theorem zd_M_hash_138 : decode zc_M_hash 138 = .ok (.invokevirtual 142, 3) := by decide +kernel
theorem zd_M_hash_141 : decode zc_M_hash 141 = .ok (.ldc 154, 2) := by decide +kernel
theorem zd_M_hash_143 : decode zc_M_hash 143 = .ok (.imul, 1) := by decide +kernel
theorem zd_M_hash_144 : decode zc_M_hash 144 = .ok (.iadd, 1) := by decide +kernel
theorem zd_M_hash_145 : decode zc_M_hash 145 = .ok (.bipush 17, 2) := by decide +kernel
theorem zd_M_hash_147 : decode zc_M_hash 147 = .ok (.invokestatic 146, 3) := by decide +kernel
theorem zd_M_hash_150 : decode zc_M_hash 150 = .ok (.ldc 155, 2) := by decide +kernel
theorem zd_M_hash_152 : decode zc_M_hash 152 = .ok (.imul, 1) := by decide +kernel
theorem zd_M_hash_153 : decode zc_M_hash 153 = .ok (.istore 4, 2) := by decide +kernel
theorem zd_M_hash_155 : decode zc_M_hash 155 = .ok (.iload 6, 2) := by decide +kernel
theorem zd_M_hash_157 : decode zc_M_hash 157 = .ok (.iconst 4, 1) := by decide +kernel
theorem zd_M_hash_158 : decode zc_M_hash 158 = .ok (.iadd, 1) := by decide +kernel
theorem zd_M_hash_159 : decode zc_M_hash 159 = .ok (.istore 5, 2) := by decide +kernel
theorem zd_M_hash_161 : decode zc_M_hash 161 = .ok (.iinc 6 4, 3) := by decide +kernel
theorem zd_M_hash_164 : decode zc_M_hash 164 = .ok (.goto (-40), 3) := by decide +kernel
theorem zd_M_hash_167 : decode zc_M_hash 167 = .ok (.iload 5, 2) := by decide +kernel
theorem zd_M_hash_169 : decode zc_M_hash 169 = .ok (.istore 6, 2) := by decide +kernel
theorem zd_M_hash_171 : decode zc_M_hash 171 = .ok (.iload 6, 2) := by decide +kernel
theorem zd_M_hash_173 : decode zc_M_hash 173 = .ok (.iload_n 3, 1) := by decide +kernel
theorem zd_M_hash_174 : decode zc_M_hash 174 = .ok (.if_icmp .ge 38, 3) := by decide +kernel
theorem zd_M_hash_177 : decode zc_M_hash 177 = .ok (.iload 4, 2) := by decide +kernel
theorem zd_M_hash_179 : decode zc_M_hash 179 = .ok (.aload_n 0, 1) := by decide +kernel
theorem zd_M_hash_180 : decode zc_M_hash 180 = .ok (.getfield 7, 3) := by decide +kernel
theorem zd_M_hash_183 : decode zc_M_hash 183 = .ok (.sipush 200, 3) := by decide +kernel
theorem zd_M_hash_186 : decode zc_M_hash 186 = .ok (.iload_n 1, 1) := by decide +kernel
theorem zd_M_hash_187 : decode zc_M_hash 187 = .ok (.imul, 1) := by decide +kernel
theorem zd_M_hash_188 : decode zc_M_hash 188 = .ok (.iload 6, 2) := by decide +kernel
theorem zd_M_hash_190 : decode zc_M_hash 190 = .ok (.iadd, 1) := by decide +kernel
theorem zd_M_hash_191 : decode zc_M_hash 191 = .ok (.iaload, 1) := by decide +kernel
theorem zd_M_hash_192 : decode zc_M_hash 192 = .ok (.ldc 149, 2) := by decide +kernel
theorem zd_M_hash_194 : decode zc_M_hash 194 = .ok (.imul, 1) := by decide +kernel
theorem zd_M_hash_195 : decode zc_M_hash 195 = .ok (.iadd, 1) := by decide +kernel
theorem zd_M_hash_196 : decode zc_M_hash 196 = .ok (.bipush 11, 2) := by decide +kernel
theorem zd_M_hash_198 : decode zc_M_hash 198 = .ok (.invokestatic 146, 3) := by decide +kernel
theorem zd_M_hash_201 : decode zc_M_hash 201 = .ok (.ldc 53, 2) := by decide +kernel
theorem zd_M_hash_203 : decode zc_M_hash 203 = .ok (.imul, 1) := by decide +kernel
theorem zd_M_hash_204 : decode zc_M_hash 204 = .ok (.istore 4, 2) := by decide +kernel
theorem zd_M_hash_206 : decode zc_M_hash 206 = .ok (.iinc 6 1, 3) := by decide +kernel
theorem zd_M_hash_209 : decode zc_M_hash 209 = .ok (.goto (-38), 3) := by decide +kernel
theorem zd_M_hash_212 : decode zc_M_hash 212 = .ok (.iload 4, 2) := by decide +kernel
theorem zd_M_hash_214 : decode zc_M_hash 214 = .ok (.iload 4, 2) := by decide +kernel
theorem zd_M_hash_216 : decode zc_M_hash 216 = .ok (.bipush 15, 2) := by decide +kernel
theorem zd_M_hash_218 : decode zc_M_hash 218 = .ok (.iushr, 1) := by decide +kernel
theorem zd_M_hash_219 : decode zc_M_hash 219 = .ok (.ixor, 1) := by decide +kernel
theorem zd_M_hash_220 : decode zc_M_hash 220 = .ok (.istore 4, 2) := by decide +kernel
theorem zd_M_hash_222 : decode zc_M_hash 222 = .ok (.iload 4, 2) := by decide +kernel
theorem zd_M_hash_224 : decode zc_M_hash 224 = .ok (.ldc 145, 2) := by decide +kernel
theorem zd_M_hash_226 : decode zc_M_hash 226 = .ok (.imul, 1) := by decide +kernel
theorem zd_M_hash_227 : decode zc_M_hash 227 = .ok (.istore 4, 2) := by decide +kernel
theorem zd_M_hash_229 : decode zc_M_hash 229 = .ok (.iload 4, 2) := by decide +kernel
theorem zd_M_hash_231 : decode zc_M_hash 231 = .ok (.iload 4, 2) := by decide +kernel
theorem zd_M_hash_233 : decode zc_M_hash 233 = .ok (.bipush 13, 2) := by decide +kernel
theorem zd_M_hash_235 : decode zc_M_hash 235 = .ok (.iushr, 1) := by decide +kernel
theorem zd_M_hash_236 : decode zc_M_hash 236 = .ok (.ixor, 1) := by decide +kernel
theorem zd_M_hash_237 : decode zc_M_hash 237 = .ok (.istore 4, 2) := by decide +kernel
theorem zd_M_hash_239 : decode zc_M_hash 239 = .ok (.iload 4, 2) := by decide +kernel
theorem zd_M_hash_241 : decode zc_M_hash 241 = .ok (.ldc 154, 2) := by decide +kernel
theorem zd_M_hash_243 : decode zc_M_hash 243 = .ok (.imul, 1) := by decide +kernel
theorem zd_M_hash_244 : decode zc_M_hash 244 = .ok (.istore 4, 2) := by decide +kernel
theorem zd_M_hash_246 : decode zc_M_hash 246 = .ok (.iload 4, 2) := by decide +kernel
theorem zd_M_hash_248 : decode zc_M_hash 248 = .ok (.iload 4, 2) := by decide +kernel
theorem zd_M_hash_250 : decode zc_M_hash 250 = .ok (.bipush 16, 2) := by decide +kernel
theorem zd_M_hash_252 : decode zc_M_hash 252 = .ok (.iushr, 1) := by decide +kernel
theorem zd_M_hash_253 : decode zc_M_hash 253 = .ok (.ixor, 1) := by decide +kernel
theorem zd_M_hash_254 : decode zc_M_hash 254 = .ok (.ireturn, 1) := by decide +kernel
