theorem zd_M_put_9 : decode zc_M_put 9 = .ok (.iconst 1, 1) := by decide +kernel
theorem zd_M_put_10 : decode zc_M_put 10 = .ok (.if_icmp .lt 10, 3) := by decide +kernel
theorem zd_M_put_13 : decode zc_M_put 13 = .ok (.iload 4, 2) := by decide +kernel
theorem zd_M_put_15 : decode zc_M_put 15 = .ok (.bipush 8, 2) := by decide +kernel
theorem zd_M_put_17 : decode zc_M_put 17 = .ok (.if_icmp .le 7, 3) := by decide +kernel
theorem zd_M_put_20 : decode zc_M_put 20 = .ok (.iconst 1, 1) := by decide +kernel
theorem zd_M_put_21 : decode zc_M_put 21 = .ok (.goto 4, 3) := by decide +kernel
theorem zd_M_put_24 : decode zc_M_put 24 = .ok (.iconst 0, 1) := by decide +kernel
theorem zd_M_put_25 : decode zc_M_put 25 = .ok (.istore 5, 2) := by decide +kernel
theorem zd_M_put_27 : decode zc_M_put 27 = .ok (.aload_n 0, 1) := by decide +kernel
theorem zd_M_put_28 : decode zc_M_put 28 = .ok (.iload 5, 2) := by decide +kernel
theorem zd_M_put_30 : decode zc_M_put 30 = .ok (.iload 5, 2) := by decide +kernel
theorem zd_M_put_32 : decode zc_M_put 32 = .ok (.ifCond .ne 23, 3) := by decide +kernel
theorem zd_M_put_35 : decode zc_M_put 35 = .ok (.aload_n 0, 1) := by decide +kernel
theorem zd_M_put_36 : decode zc_M_put 36 = .ok (.getfield 13, 3) := by decide +kernel
theorem zd_M_put_39 : decode zc_M_put 39 = .ok (.iload_n 1, 1) := by decide +kernel
theorem zd_M_put_40 : decode zc_M_put 40 = .ok (.iaload, 1) := by decide +kernel
theorem zd_M_put_41 : decode zc_M_put 41 = .ok (.iload 4, 2) := by decide +kernel
theorem zd_M_put_43 : decode zc_M_put 43 = .ok (.iadd, 1) := by decide +kernel
theorem zd_M_put_44 : decode zc_M_put 44 = .ok (.iload_n 1, 1) := by decide +kernel
theorem zd_M_put_45 : decode zc_M_put 45 = .ok (.invokestatic 30, 3) := by decide +kernel
theorem zd_M_put_48 : decode zc_M_put 48 = .ok (.if_icmp .le 7, 3) := by decide +kernel
theorem zd_M_put_51 : decode zc_M_put 51 = .ok (.iconst 1, 1) := by decide +kernel
theorem zd_M_put_52 : decode zc_M_put 52 = .ok (.goto 4, 3) := by decide +kernel
theorem zd_M_put_55 : decode zc_M_put 55 = .ok (.iconst 0, 1) := by decide +kernel
theorem zd_M_put_56 : decode zc_M_put 56 = .ok (.invokevirtual 34, 3) := by decide +kernel
theorem zd_M_put_59 : decode zc_M_put 59 = .ok (.ifCond .eq 4, 3) := by decide +kernel
theorem zd_M_put_62 : decode zc_M_put 62 = .ok (.return_, 1) := by decide +kernel
theorem zd_M_put_63 : decode zc_M_put 63 = .ok (.iconst 0, 1) := by decide +kernel
theorem zd_M_put_64 : decode zc_M_put 64 = .ok (.istore 6, 2) := by decide +kernel
theorem zd_M_put_66 : decode zc_M_put 66 = .ok (.iload 6, 2) := by decide +kernel
theorem zd_M_put_68 : decode zc_M_put 68 = .ok (.iload 4, 2) := by decide +kernel
theorem zd_M_put_70 : decode zc_M_put 70 = .ok (.if_icmp .ge 41, 3) := by decide +kernel
theorem zd_M_put_73 : decode zc_M_put 73 = .ok (.aload_n 0, 1) := by decide +kernel
theorem zd_M_put_74 : decode zc_M_put 74 = .ok (.getfield 7, 3) := by decide +kernel
theorem zd_M_put_77 : decode zc_M_put 77 = .ok (.sipush 200, 3) := by decide +kernel
theorem zd_M_put_80 : decode zc_M_put 80 = .ok (.iload_n 1, 1) := by decide +kernel
theorem zd_M_put_81 : decode zc_M_put 81 = .ok (.imul, 1) := by decide +kernel
theorem zd_M_put_82 : decode zc_M_put 82 = .ok (.aload_n 0, 1) := by decide +kernel
theorem zd_M_put_83 : decode zc_M_put 83 = .ok (.getfield 13, 3) := by decide +kernel
theorem zd_M_put_86 : decode zc_M_put 86 = .ok (.iload_n 1, 1) := by decide +kernel
theorem zd_M_put_87 : decode zc_M_put 87 = .ok (.iaload, 1) := by decide +kernel
theorem zd_M_put_88 : decode zc_M_put 88 = .ok (.iadd, 1) := by decide +kernel
theorem zd_M_put_89 : decode zc_M_put 89 = .ok (.iload 6, 2) := by decide +kernel
theorem zd_M_put_91 : decode zc_M_put 91 = .ok (.iadd, 1) := by decide +kernel
theorem zd_M_put_92 : decode zc_M_put 92 = .ok (.lload_n 2, 1) := by decide +kernel
theorem zd_M_put_93 : decode zc_M_put 93 = .ok (.bipush 8, 2) := by decide +kernel
theorem zd_M_put_95 : decode zc_M_put 95 = .ok (.iload 6, 2) := by decide +kernel
theorem zd_M_put_97 : decode zc_M_put 97 = .ok (.imul, 1) := by decide +kernel
theorem zd_M_put_98 : decode zc_M_put 98 = .ok (.lshr, 1) := by decide +kernel
theorem zd_M_put_99 : decode zc_M_put 99 = .ok (.ldc2_w 38, 3) := by decide +kernel
theorem zd_M_put_102 : decode zc_M_put 102 = .ok (.land, 1) := by decide +kernel
theorem zd_M_put_103 : decode zc_M_put 103 = .ok (.l2i, 1) := by decide +kernel
theorem zd_M_put_104 : decode zc_M_put 104 = .ok (.iastore, 1) := by decide +kernel
theorem zd_M_put_105 : decode zc_M_put 105 = .ok (.iinc 6 1, 3) := by decide +kernel
theorem zd_M_put_108 : decode zc_M_put 108 = .ok (.goto (-42), 3) := by decide +kernel
theorem zd_M_put_111 : decode zc_M_put 111 = .ok (.aload_n 0, 1) := by decide +kernel
theorem zd_M_put_112 : decode zc_M_put 112 = .ok (.getfield 13, 3) := by decide +kernel
theorem zd_M_put_115 : decode zc_M_put 115 = .ok (.iload_n 1, 1) := by decide +kernel
theorem zd_M_put_116 : decode zc_M_put 116 = .ok (.dup2, 1) := by decide +kernel
theorem zd_M_put_117 : decode zc_M_put 117 = .ok (.iaload, 1) := by decide +kernel
theorem zd_M_put_118 : decode zc_M_put 118 = .ok (.iload 4, 2) := by decide +kernel
theorem zd_M_put_120 : decode zc_M_put 120 = .ok (.iadd, 1) := by decide +kernel
theorem zd_M_put_121 : decode zc_M_put 121 = .ok (.iastore, 1) := by decide +kernel
theorem zd_M_put_122 : decode zc_M_put 122 = .ok (.return_, 1) := by decide +kernel
theorem zd_M_empty_0 : decode zc_M_empty 0 = .ok (.aload_n 0, 1) := by decide +kernel
theorem zd_M_empty_1 : decode zc_M_empty 1 = .ok (.iload_n 1, 1) := by decide +kernel
theorem zd_M_empty_2 : decode zc_M_empty 2 = .ok (.invokestatic 26, 3) := by decide +kernel
theorem zd_M_empty_5 : decode zc_M_empty 5 = .ok (.ifCond .ne 7, 3) := by decide +kernel
theorem zd_M_empty_8 : decode zc_M_empty 8 = .ok (.iconst 1, 1) := by decide +kernel
theorem zd_M_empty_9 : decode zc_M_empty 9 = .ok (.goto 4, 3) := by decide +kernel
theorem zd_M_empty_12 : decode zc_M_empty 12 = .ok (.iconst 0, 1) := by decide +kernel
theorem zd_M_empty_13 : decode zc_M_empty 13 = .ok (.iconst 0, 1) := by decide +kernel
theorem zd_M_empty_14 : decode zc_M_empty 14 = .ok (.invokevirtual 34, 3) := by decide +kernel
theorem zd_M_empty_17 : decode zc_M_empty 17 = .ok (.ifCond .eq 5, 3) := by decide +kernel
theorem zd_M_empty_20 : decode zc_M_empty 20 = .ok (.iconst 0, 1) := by decide +kernel
theorem zd_M_empty_21 : decode zc_M_empty 21 = .ok (.ireturn, 1) := by decide +kernel
theorem zd_M_empty_22 : decode zc_M_empty 22 = .ok (.aload_n 0, 1) := by decide +kernel
theorem zd_M_empty_23 : decode zc_M_empty 23 = .ok (.getfield 13, 3) := by decide +kernel
theorem zd_M_empty_26 : decode zc_M_empty 26 = .ok (.iload_n 1, 1) := by decide +kernel
theorem zd_M_empty_27 : decode zc_M_empty 27 = .ok (.iaload, 1) := by decide +kernel
theorem zd_M_empty_28 : decode zc_M_empty 28 = .ok (.istore_n 2, 1) := by decide +kernel
theorem zd_M_empty_29 : decode zc_M_empty 29 = .ok (.aload_n 0, 1) := by decide +kernel
theorem zd_M_empty_30 : decode zc_M_empty 30 = .ok (.getfield 13, 3) := by decide +kernel
theorem zd_M_empty_33 : decode zc_M_empty 33 = .ok (.iload_n 1, 1) := by decide +kernel
theorem zd_M_empty_34 : decode zc_M_empty 34 = .ok (.iconst 0, 1) := by decide +kernel
theorem zd_M_empty_35 : decode zc_M_empty 35 = .ok (.iastore, 1) := by decide +kernel
theorem zd_M_empty_36 : decode zc_M_empty 36 = .ok (.iload_n 2, 1) := by decide +kernel
theorem zd_M_empty_37 : decode zc_M_empty 37 = .ok (.ireturn, 1) := by decide +kernel
theorem zd_M_size_0 : decode zc_M_size 0 = .ok (.aload_n 0, 1) := by decide +kernel
theorem zd_M_size_1 : decode zc_M_size 1 = .ok (.iload_n 1, 1) := by decide +kernel
theorem zd_M_size_2 : decode zc_M_size 2 = .ok (.invokestatic 26, 3) := by decide +kernel
theorem zd_M_size_5 : decode zc_M_size 5 = .ok (.ifCond .ne 7, 3) := by decide +kernel
theorem zd_M_size_8 : decode zc_M_size 8 = .ok (.iconst 1, 1) := by decide +kernel
theorem zd_M_size_9 : decode zc_M_size 9 = .ok (.goto 4, 3) := by decide +kernel
theorem zd_M_size_12 : decode zc_M_size 12 = .ok (.iconst 0, 1) := by decide +kernel
theorem zd_M_size_13 : decode zc_M_size 13 = .ok (.iconst 0, 1) := by decide +kernel
theorem zd_M_size_14 : decode zc_M_size 14 = .ok (.invokevirtual 34, 3) := by decide +kernel
theorem zd_M_size_17 : decode zc_M_size 17 = .ok (.ifCond .eq 7, 3) := by decide +kernel
theorem zd_M_size_20 : decode zc_M_size 20 = .ok (.iconst 0, 1) := by decide +kernel
theorem zd_M_size_21 : decode zc_M_size 21 = .ok (.goto 9, 3) := by decide +kernel
theorem zd_M_size_24 : decode zc_M_size 24 = .ok (.aload_n 0, 1) := by decide +kernel
theorem zd_M_size_25 : decode zc_M_size 25 = .ok (.getfield 13, 3) := by decide +kernel
theorem zd_M_size_28 : decode zc_M_size 28 = .ok (.iload_n 1, 1) := by decide +kernel
theorem zd_M_size_29 : decode zc_M_size 29 = .ok (.iaload, 1) := by decide +kernel
theorem zd_M_size_30 : decode zc_M_size 30 = .ok (.ireturn, 1) := by decide +kernel
theorem zd_M_get_0 : decode zc_M_get 0 = .ok (.iload_n 1, 1) := by decide +kernel
theorem zd_M_get_1 : decode zc_M_get 1 = .ok (.invokestatic 26, 3) := by decide +kernel
theorem zd_M_get_4 : decode zc_M_get 4 = .ok (.ifCond .ne 7, 3) := by decide +kernel
theorem zd_M_get_7 : decode zc_M_get 7 = .ok (.iconst 1, 1) := by decide +kernel
theorem zd_M_get_8 : decode zc_M_get 8 = .ok (.goto 4, 3) := by decide +kernel
theorem zd_M_get_11 : decode zc_M_get 11 = .ok (.iconst 0, 1) := by decide +kernel
theorem zd_M_get_12 : decode zc_M_get 12 = .ok (.istore_n 3, 1) := by decide +kernel
theorem zd_M_get_13 : decode zc_M_get 13 = .ok (.aload_n 0, 1) := by decide +kernel
theorem zd_M_get_14 : decode zc_M_get 14 = .ok (.iload_n 3, 1) := by decide +kernel
theorem zd_M_get_15 : decode zc_M_get 15 = .ok (.iload_n 3, 1) := by decide +kernel
theorem zd_M_get_16 : decode zc_M_get 16 = .ok (.ifCond .ne 21, 3) := by decide +kernel
theorem zd_M_get_19 : decode zc_M_get 19 = .ok (.iload_n 2, 1) := by decide +kernel
theorem zd_M_get_20 : decode zc_M_get 20 = .ok (.ifCond .lt 13, 3) := by decide +kernel
theorem zd_M_get_23 : decode zc_M_get 23 = .ok (.iload_n 2, 1) := by decide +kernel
theorem zd_M_get_24 : decode zc_M_get 24 = .ok (.aload_n 0, 1) := by decide +kernel
theorem zd_M_get_25 : decode zc_M_get 25 = .ok (.getfield 13, 3) := by decide +kernel
theorem zd_M_get_28 : decode zc_M_get 28 = .ok (.iload_n 1, 1) := by decide +kernel
theorem zd_M_get_29 : decode zc_M_get 29 = .ok (.iaload, 1) := by decide +kernel
theorem zd_M_get_30 : decode zc_M_get 30 = .ok (.if_icmp .lt 7, 3) := by decide +kernel
theorem zd_M_get_33 : decode zc_M_get 33 = .ok (.iconst 1, 1) := by decide +kernel
theorem zd_M_get_34 : decode zc_M_get 34 = .ok (.goto 4, 3) := by decide +kernel
theorem zd_M_get_37 : decode zc_M_get 37 = .ok (.iconst 0, 1) := by decide +kernel
theorem zd_M_get_38 : decode zc_M_get 38 = .ok (.invokevirtual 34, 3) := by decide +kernel
theorem zd_M_get_41 : decode zc_M_get 41 = .ok (.ifCond .eq 7, 3) := by decide +kernel
theorem zd_M_get_44 : decode zc_M_get 44 = .ok (.iconst 0, 1) := by decide +kernel
theorem zd_M_get_45 : decode zc_M_get 45 = .ok (.goto 15, 3) := by decide +kernel
theorem zd_M_get_48 : decode zc_M_get 48 = .ok (.aload_n 0, 1) := by decide +kernel
theorem zd_M_get_49 : decode zc_M_get 49 = .ok (.getfield 7, 3) := by decide +kernel
theorem zd_M_get_52 : decode zc_M_get 52 = .ok (.sipush 200, 3) := by decide +kernel
theorem zd_M_get_55 : decode zc_M_get 55 = .ok (.iload_n 1, 1) := by decide +kernel
theorem zd_M_get_56 : decode zc_M_get 56 = .ok (.imul, 1) := by decide +kernel
theorem zd_M_get_57 : decode zc_M_get 57 = .ok (.iload_n 2, 1) := by decide +kernel
theorem zd_M_get_58 : decode zc_M_get 58 = .ok (.iadd, 1) := by decide +kernel
theorem zd_M_get_59 : decode zc_M_get 59 = .ok (.iaload, 1) := by decide +kernel
theorem zd_M_get_60 : decode zc_M_get 60 = .ok (.ireturn, 1) := by decide +kernel
theorem zd_M_found_0 : decode zc_M_found 0 = .ok (.aload_n 0, 1) := by decide +kernel
theorem zd_M_found_1 : decode zc_M_found 1 = .ok (.iload_n 1, 1) := by decide +kernel
theorem zd_M_found_2 : decode zc_M_found 2 = .ok (.ifCond .eq 12, 3) := by decide +kernel
theorem zd_M_found_5 : decode zc_M_found 5 = .ok (.iload_n 1, 1) := by decide +kernel
theorem zd_M_found_6 : decode zc_M_found 6 = .ok (.iconst 1, 1) := by decide +kernel
theorem zd_M_found_7 : decode zc_M_found 7 = .ok (.if_icmp .eq 7, 3) := by decide +kernel
theorem zd_M_found_10 : decode zc_M_found 10 = .ok (.iconst 1, 1) := by decide +kernel
theorem zd_M_found_11 : decode zc_M_found 11 = .ok (.goto 4, 3) := by decide +kernel
theorem zd_M_found_14 : decode zc_M_found 14 = .ok (.iconst 0, 1) := by decide +kernel
theorem zd_M_found_15 : decode zc_M_found 15 = .ok (.iconst 0, 1) := by decide +kernel
theorem zd_M_found_16 : decode zc_M_found 16 = .ok (.invokevirtual 34, 3) := by decide +kernel
theorem zd_M_found_19 : decode zc_M_found 19 = .ok (.ifCond .eq 7, 3) := by decide +kernel
theorem zd_M_found_22 : decode zc_M_found 22 = .ok (.iconst 0, 1) := by decide +kernel
theorem zd_M_found_23 : decode zc_M_found 23 = .ok (.goto 18, 3) := by decide +kernel
theorem zd_M_found_26 : decode zc_M_found 26 = .ok (.iload_n 1, 1) := by decide +kernel
theorem zd_M_found_27 : decode zc_M_found 27 = .ok (.ifCond .ne 10, 3) := by decide +kernel
theorem zd_M_found_30 : decode zc_M_found 30 = .ok (.aload_n 0, 1) := by decide +kernel
theorem zd_M_found_31 : decode zc_M_found 31 = .ok (.getfield 40, 3) := by decide +kernel
theorem zd_M_found_34 : decode zc_M_found 34 = .ok (.goto 7, 3) := by decide +kernel
theorem zd_M_found_37 : decode zc_M_found 37 = .ok (.aload_n 0, 1) := by decide +kernel
theorem zd_M_found_38 : decode zc_M_found 38 = .ok (.getfield 43, 3) := by decide +kernel
theorem zd_M_found_41 : decode zc_M_found 41 = .ok (.ireturn, 1) := by decide +kernel
theorem zd_M_four_0 : decode zc_M_four 0 = .ok (.iload_n 0, 1) := by decide +kernel
theorem zd_M_four_1 : decode zc_M_four 1 = .ok (.iload_n 1, 1) := by decide +kernel
theorem zd_M_four_2 : decode zc_M_four 2 = .ok (.bipush 8, 2) := by decide +kernel
theorem zd_M_four_4 : decode zc_M_four 4 = .ok (.ishl, 1) := by decide +kernel
theorem zd_M_four_5 : decode zc_M_four 5 = .ok (.ior, 1) := by decide +kernel
theorem zd_M_four_6 : decode zc_M_four 6 = .ok (.iload_n 2, 1) := by decide +kernel
theorem zd_M_four_7 : decode zc_M_four 7 = .ok (.bipush 16, 2) := by decide +kernel
theorem zd_M_four_9 : decode zc_M_four 9 = .ok (.ishl, 1) := by decide +kernel
theorem zd_M_four_10 : decode zc_M_four 10 = .ok (.ior, 1) := by decide +kernel
theorem zd_M_four_11 : decode zc_M_four 11 = .ok (.iload_n 3, 1) := by decide +kernel
theorem zd_M_four_12 : decode zc_M_four 12 = .ok (.bipush 24, 2) := by decide +kernel
theorem zd_M_four_14 : decode zc_M_four 14 = .ok (.ishl, 1) := by decide +kernel
theorem zd_M_four_15 : decode zc_M_four 15 = .ok (.ior, 1) := by decide +kernel
theorem zd_M_four_16 : decode zc_M_four 16 = .ok (.ireturn, 1) := by decide +kernel
theorem zd_M_intAt_0 : decode zc_M_intAt 0 = .ok (.aload_n 0, 1) := by decide +kernel
theorem zd_M_intAt_1 : decode zc_M_intAt 1 = .ok (.getfield 16, 3) := by decide +kernel
theorem zd_M_intAt_4 : decode zc_M_intAt 4 = .ok (.iload_n 1, 1) := by decide +kernel
theorem zd_M_intAt_5 : decode zc_M_intAt 5 = .ok (.iaload, 1) := by decide +kernel
theorem zd_M_intAt_6 : decode zc_M_intAt 6 = .ok (.aload_n 0, 1) := by decide +kernel
theorem zd_M_intAt_7 : decode zc_M_intAt 7 = .ok (.getfield 16, 3) := by decide +kernel
theorem zd_M_intAt_10 : decode zc_M_intAt 10 = .ok (.iload_n 1, 1) := by decide +kernel
theorem zd_M_intAt_11 : decode zc_M_intAt 11 = .ok (.iconst 1, 1) := by decide +kernel
theorem zd_M_intAt_12 : decode zc_M_intAt 12 = .ok (.iadd, 1) := by decide +kernel
theorem zd_M_intAt_13 : decode zc_M_intAt 13 = .ok (.iaload, 1) := by decide +kernel
theorem zd_M_intAt_14 : decode zc_M_intAt 14 = .ok (.aload_n 0, 1) := by decide +kernel
theorem zd_M_intAt_15 : decode zc_M_intAt 15 = .ok (.getfield 16, 3) := by decide +kernel
theorem zd_M_intAt_18 : decode zc_M_intAt 18 = .ok (.iload_n 1, 1) := by decide +kernel
theorem zd_M_intAt_19 : decode zc_M_intAt 19 = .ok (.iconst 2, 1) := by decide +kernel
theorem zd_M_intAt_20 : decode zc_M_intAt 20 = .ok (.iadd, 1) := by decide +kernel
theorem zd_M_intAt_21 : decode zc_M_intAt 21 = .ok (.iaload, 1) := by decide +kernel
theorem zd_M_intAt_22 : decode zc_M_intAt 22 = .ok (.aload_n 0, 1) := by decide +kernel
theorem zd_M_intAt_23 : decode zc_M_intAt 23 = .ok (.getfield 16, 3) := by decide +kernel
theorem zd_M_intAt_26 : decode zc_M_intAt 26 = .ok (.iload_n 1, 1) := by decide +kernel
theorem zd_M_intAt_27 : decode zc_M_intAt 27 = .ok (.iconst 3, 1) := by decide +kernel
theorem zd_M_intAt_28 : decode zc_M_intAt 28 = .ok (.iadd, 1) := by decide +kernel
theorem zd_M_intAt_29 : decode zc_M_intAt 29 = .ok (.iaload, 1) := by decide +kernel
theorem zd_M_intAt_30 : decode zc_M_intAt 30 = .ok (.invokestatic 46, 3) := by decide +kernel
theorem zd_M_intAt_33 : decode zc_M_intAt 33 = .ok (.ireturn, 1) := by decide +kernel
theorem zd_M_slot_0 : decode zc_M_slot 0 = .ok (.aload_n 0, 1) := by decide +kernel
theorem zd_M_slot_1 : decode zc_M_slot 1 = .ok (.iload_n 1, 1) := by decide +kernel
theorem zd_M_slot_2 : decode zc_M_slot 2 = .ok (.invokevirtual 50, 3) := by decide +kernel
theorem zd_M_slot_5 : decode zc_M_slot 5 = .ok (.ldc 53, 2) := by decide +kernel
theorem zd_M_slot_7 : decode zc_M_slot 7 = .ok (.imul, 1) := by decide +kernel
theorem zd_M_slot_8 : decode zc_M_slot 8 = .ok (.bipush 27, 2) := by decide +kernel
theorem zd_M_slot_10 : decode zc_M_slot 10 = .ok (.iushr, 1) := by decide +kernel
theorem zd_M_slot_11 : decode zc_M_slot 11 = .ok (.ireturn, 1) := by decide +kernel
theorem zd_M_remembers_0 : decode zc_M_remembers 0 = .ok (.aload_n 0, 1) := by decide +kernel
theorem zd_M_remembers_1 : decode zc_M_remembers 1 = .ok (.aload_n 0, 1) := by decide +kernel
theorem zd_M_remembers_2 : decode zc_M_remembers 2 = .ok (.getfield 13, 3) := by decide +kernel
theorem zd_M_remembers_5 : decode zc_M_remembers 5 = .ok (.iconst 2, 1) := by decide +kernel
theorem zd_M_remembers_6 : decode zc_M_remembers 6 = .ok (.iaload, 1) := by decide +kernel
theorem zd_M_remembers_7 : decode zc_M_remembers 7 = .ok (.putfield 54, 3) := by decide +kernel
theorem zd_M_remembers_10 : decode zc_M_remembers 10 = .ok (.iconst 0, 1) := by decide +kernel
theorem zd_M_remembers_11 : decode zc_M_remembers 11 = .ok (.istore_n 1, 1) := by decide +kernel
theorem zd_M_remembers_12 : decode zc_M_remembers 12 = .ok (.iload_n 1, 1) := by decide +kernel
theorem zd_M_remembers_13 : decode zc_M_remembers 13 = .ok (.aload_n 0, 1) := by decide +kernel
theorem zd_M_remembers_14 : decode zc_M_remembers 14 = .ok (.getfield 54, 3) := by decide +kernel
theorem zd_M_remembers_17 : decode zc_M_remembers 17 = .ok (.if_icmp .ge 25, 3) := by decide +kernel
theorem zd_M_remembers_20 : decode zc_M_remembers 20 = .ok (.aload_n 0, 1) := by decide +kernel
theorem zd_M_remembers_21 : decode zc_M_remembers 21 = .ok (.getfield 16, 3) := by decide +kernel
theorem zd_M_remembers_24 : decode zc_M_remembers 24 = .ok (.iload_n 1, 1) := by decide +kernel
theorem zd_M_remembers_25 : decode zc_M_remembers 25 = .ok (.aload_n 0, 1) := by decide +kernel
theorem zd_M_remembers_26 : decode zc_M_remembers 26 = .ok (.getfield 7, 3) := by decide +kernel
theorem zd_M_remembers_29 : decode zc_M_remembers 29 = .ok (.sipush 400, 3) := by decide +kernel
theorem zd_M_remembers_32 : decode zc_M_remembers 32 = .ok (.iload_n 1, 1) := by decide +kernel
theorem zd_M_remembers_33 : decode zc_M_remembers 33 = .ok (.iadd, 1) := by decide +kernel
theorem zd_M_remembers_34 : decode zc_M_remembers 34 = .ok (.iaload, 1) := by decide +kernel
theorem zd_M_remembers_35 : decode zc_M_remembers 35 = .ok (.iastore, 1) := by decide +kernel
theorem zd_M_remembers_36 : decode zc_M_remembers 36 = .ok (.iinc 1 1, 3) := by decide +kernel
theorem zd_M_remembers_39 : decode zc_M_remembers 39 = .ok (.goto (-27), 3) := by decide +kernel
theorem zd_M_remembers_42 : decode zc_M_remembers 42 = .ok (.aload_n 0, 1) := by decide +kernel
theorem zd_M_remembers_43 : decode zc_M_remembers 43 = .ok (.aload_n 0, 1) := by decide +kernel
theorem zd_M_remembers_44 : decode zc_M_remembers 44 = .ok (.getfield 54, 3) := by decide +kernel
theorem zd_M_remembers_47 : decode zc_M_remembers 47 = .ok (.putfield 57, 3) := by decide +kernel
theorem zd_M_remembers_50 : decode zc_M_remembers 50 = .ok (.return_, 1) := by decide +kernel
theorem zd_M_emit_0 : decode zc_M_emit 0 = .ok (.aload_n 0, 1) := by decide +kernel
theorem zd_M_emit_1 : decode zc_M_emit 1 = .ok (.getfield 7, 3) := by decide +kernel
theorem zd_M_emit_4 : decode zc_M_emit 4 = .ok (.sipush 200, 3) := by decide +kernel
theorem zd_M_emit_7 : decode zc_M_emit 7 = .ok (.aload_n 0, 1) := by decide +kernel
theorem zd_M_emit_8 : decode zc_M_emit 8 = .ok (.getfield 60, 3) := by decide +kernel
theorem zd_M_emit_11 : decode zc_M_emit 11 = .ok (.iadd, 1) := by decide +kernel
theorem zd_M_emit_12 : decode zc_M_emit 12 = .ok (.iload_n 1, 1) := by decide +kernel
theorem zd_M_emit_13 : decode zc_M_emit 13 = .ok (.sipush 255, 3) := by decide +kernel
theorem zd_M_emit_16 : decode zc_M_emit 16 = .ok (.iand, 1) := by decide +kernel
theorem zd_M_emit_17 : decode zc_M_emit 17 = .ok (.iastore, 1) := by decide +kernel
theorem zd_M_emit_18 : decode zc_M_emit 18 = .ok (.aload_n 0, 1) := by decide +kernel
theorem zd_M_emit_19 : decode zc_M_emit 19 = .ok (.dup, 1) := by decide +kernel
theorem zd_M_emit_20 : decode zc_M_emit 20 = .ok (.getfield 60, 3) := by decide +kernel
theorem zd_M_emit_23 : decode zc_M_emit 23 = .ok (.iconst 1, 1) := by decide +kernel
theorem zd_M_emit_24 : decode zc_M_emit 24 = .ok (.iadd, 1) := by decide +kernel
theorem zd_M_emit_25 : decode zc_M_emit 25 = .ok (.putfield 60, 3) := by decide +kernel
theorem zd_M_emit_28 : decode zc_M_emit 28 = .ok (.return_, 1) := by decide +kernel
theorem zd_M_emitLiterals_0 : decode zc_M_emitLiterals 0 = .ok (.iload_n 1, 1) := by decide +kernel
theorem zd_M_emitLiterals_1 : decode zc_M_emitLiterals 1 = .ok (.istore_n 3, 1) := by decide +kernel
theorem zd_M_emitLiterals_2 : decode zc_M_emitLiterals 2 = .ok (.iload_n 3, 1) := by decide +kernel
theorem zd_M_emitLiterals_3 : decode zc_M_emitLiterals 3 = .ok (.iload_n 2, 1) := by decide +kernel
theorem zd_M_emitLiterals_4 : decode zc_M_emitLiterals 4 = .ok (.if_icmp .ge 19, 3) := by decide +kernel
theorem zd_M_emitLiterals_7 : decode zc_M_emitLiterals 7 = .ok (.aload_n 0, 1) := by decide +kernel
theorem zd_M_emitLiterals_8 : decode zc_M_emitLiterals 8 = .ok (.aload_n 0, 1) := by decide +kernel
theorem zd_M_emitLiterals_9 : decode zc_M_emitLiterals 9 = .ok (.getfield 16, 3) := by decide +kernel
theorem zd_M_emitLiterals_12 : decode zc_M_emitLiterals 12 = .ok (.iload_n 3, 1) := by decide +kernel
theorem zd_M_emitLiterals_13 : decode zc_M_emitLiterals 13 = .ok (.iaload, 1) := by decide +kernel
theorem zd_M_emitLiterals_14 : decode zc_M_emitLiterals 14 = .ok (.invokevirtual 63, 3) := by decide +kernel
theorem zd_M_emitLiterals_17 : decode zc_M_emitLiterals 17 = .ok (.iinc 3 1, 3) := by decide +kernel
theorem zd_M_emitLiterals_20 : decode zc_M_emitLiterals 20 = .ok (.goto (-18), 3) := by decide +kernel
theorem zd_M_emitLiterals_23 : decode zc_M_emitLiterals 23 = .ok (.return_, 1) := by decide +kernel
theorem zd_M_emitMore_0 : decode zc_M_emitMore 0 = .ok (.iload_n 1, 1) := by decide +kernel
theorem zd_M_emitMore_1 : decode zc_M_emitMore 1 = .ok (.bipush 15, 2) := by decide +kernel
theorem zd_M_emitMore_3 : decode zc_M_emitMore 3 = .ok (.if_icmp .ge 4, 3) := by decide +kernel
theorem zd_M_emitMore_6 : decode zc_M_emitMore 6 = .ok (.return_, 1) := by decide +kernel
theorem zd_M_emitMore_7 : decode zc_M_emitMore 7 = .ok (.iload_n 1, 1) := by decide +kernel
theorem zd_M_emitMore_8 : decode zc_M_emitMore 8 = .ok (.bipush 15, 2) := by decide +kernel
theorem zd_M_emitMore_10 : decode zc_M_emitMore 10 = .ok (.isub, 1) := by decide +kernel
theorem zd_M_emitMore_11 : decode zc_M_emitMore 11 = .ok (.istore_n 2, 1) := by decide +kernel
theorem zd_M_emitMore_12 : decode zc_M_emitMore 12 = .ok (.iload_n 2, 1) := by decide +kernel
theorem zd_M_emitMore_13 : decode zc_M_emitMore 13 = .ok (.sipush 255, 3) := by decide +kernel
theorem zd_M_emitMore_16 : decode zc_M_emitMore 16 = .ok (.if_icmp .lt 19, 3) := by decide +kernel
theorem zd_M_emitMore_19 : decode zc_M_emitMore 19 = .ok (.aload_n 0, 1) := by decide +kernel
theorem zd_M_emitMore_20 : decode zc_M_emitMore 20 = .ok (.sipush 255, 3) := by decide +kernel
theorem zd_M_emitMore_23 : decode zc_M_emitMore 23 = .ok (.invokevirtual 63, 3) := by decide +kernel
theorem zd_M_emitMore_26 : decode zc_M_emitMore 26 = .ok (.iinc 2 (-255), 6) := by decide +kernel
theorem zd_M_emitMore_32 : decode zc_M_emitMore 32 = .ok (.goto (-20), 3) := by decide +kernel
theorem zd_M_emitMore_35 : decode zc_M_emitMore 35 = .ok (.aload_n 0, 1) := by decide +kernel
theorem zd_M_emitMore_36 : decode zc_M_emitMore 36 = .ok (.iload_n 2, 1) := by decide +kernel
theorem zd_M_emitMore_37 : decode zc_M_emitMore 37 = .ok (.invokevirtual 63, 3) := by decide +kernel
theorem zd_M_emitMore_40 : decode zc_M_emitMore 40 = .ok (.return_, 1) := by decide +kernel
theorem zd_M_atMost15_0 : decode zc_M_atMost15 0 = .ok (.iload_n 0, 1) := by decide +kernel
theorem zd_M_atMost15_1 : decode zc_M_atMost15 1 = .ok (.bipush 15, 2) := by decide +kernel
theorem zd_M_atMost15_3 : decode zc_M_atMost15 3 = .ok (.if_icmp .ge 7, 3) := by decide +kernel
theorem zd_M_atMost15_6 : decode zc_M_atMost15 6 = .ok (.iload_n 0, 1) := by decide +kernel
theorem zd_M_atMost15_7 : decode zc_M_atMost15 7 = .ok (.goto 5, 3) := by decide +kernel
theorem zd_M_atMost15_10 : decode zc_M_atMost15 10 = .ok (.bipush 15, 2) := by decide +kernel
theorem zd_M_atMost15_12 : decode zc_M_atMost15 12 = .ok (.ireturn, 1) := by decide +kernel
theorem zd_M_sequence_0 : decode zc_M_sequence 0 = .ok (.iload_n 2, 1) := by decide +kernel
theorem zd_M_sequence_1 : decode zc_M_sequence 1 = .ok (.iload_n 1, 1) := by decide +kernel
theorem zd_M_sequence_2 : decode zc_M_sequence 2 = .ok (.isub, 1) := by decide +kernel
theorem zd_M_sequence_3 : decode zc_M_sequence 3 = .ok (.istore 5, 2) := by decide +kernel
theorem zd_M_sequence_5 : decode zc_M_sequence 5 = .ok (.aload_n 0, 1) := by decide +kernel
theorem zd_M_sequence_6 : decode zc_M_sequence 6 = .ok (.iload 5, 2) := by decide +kernel
theorem zd_M_sequence_8 : decode zc_M_sequence 8 = .ok (.invokestatic 67, 3) := by decide +kernel
theorem zd_M_sequence_11 : decode zc_M_sequence 11 = .ok (.iconst 4, 1) := by decide +kernel
theorem zd_M_sequence_12 : decode zc_M_sequence 12 = .ok (.ishl, 1) := by decide +kernel
theorem zd_M_sequence_13 : decode zc_M_sequence 13 = .ok (.iload_n 3, 1) := by decide +kernel
theorem zd_M_sequence_14 : decode zc_M_sequence 14 = .ok (.iconst 4, 1) := by decide +kernel
theorem zd_M_sequence_15 : decode zc_M_sequence 15 = .ok (.isub, 1) := by decide +kernel
theorem zd_M_sequence_16 : decode zc_M_sequence 16 = .ok (.invokestatic 67, 3) := by decide +kernel
theorem zd_M_sequence_19 : decode zc_M_sequence 19 = .ok (.ior, 1) := by decide +kernel
theorem zd_M_sequence_20 : decode zc_M_sequence 20 = .ok (.invokevirtual 63, 3) := by decide +kernel
theorem zd_M_sequence_23 : decode zc_M_sequence 23 = .ok (.aload_n 0, 1) := by decide +kernel
theorem zd_M_sequence_24 : decode zc_M_sequence 24 = .ok (.iload 5, 2) := by decide +kernel
theorem zd_M_sequence_26 : decode zc_M_sequence 26 = .ok (.invokevirtual 70, 3) := by decide +kernel
theorem zd_M_sequence_29 : decode zc_M_sequence 29 = .ok (.aload_n 0, 1) := by decide +kernel
theorem zd_M_sequence_30 : decode zc_M_sequence 30 = .ok (.iload_n 1, 1) := by decide +kernel
theorem zd_M_sequence_31 : decode zc_M_sequence 31 = .ok (.iload_n 2, 1) := by decide +kernel
theorem zd_M_sequence_32 : decode zc_M_sequence 32 = .ok (.invokevirtual 73, 3) := by decide +kernel
theorem zd_M_sequence_35 : decode zc_M_sequence 35 = .ok (.aload_n 0, 1) := by decide +kernel
theorem zd_M_sequence_36 : decode zc_M_sequence 36 = .ok (.iload 4, 2) := by decide +kernel
theorem zd_M_sequence_38 : decode zc_M_sequence 38 = .ok (.invokevirtual 63, 3) := by decide +kernel
theorem zd_M_sequence_41 : decode zc_M_sequence 41 = .ok (.aload_n 0, 1) := by decide +kernel
theorem zd_M_sequence_42 : decode zc_M_sequence 42 = .ok (.iload 4, 2) := by decide +kernel
theorem zd_M_sequence_44 : decode zc_M_sequence 44 = .ok (.bipush 8, 2) := by decide +kernel
theorem zd_M_sequence_46 : decode zc_M_sequence 46 = .ok (.ishr, 1) := by decide +kernel
theorem zd_M_sequence_47 : decode zc_M_sequence 47 = .ok (.invokevirtual 63, 3) := by decide +kernel
theorem zd_M_sequence_50 : decode zc_M_sequence 50 = .ok (.aload_n 0, 1) := by decide +kernel
theorem zd_M_sequence_51 : decode zc_M_sequence 51 = .ok (.iload_n 3, 1) := by decide +kernel
theorem zd_M_sequence_52 : decode zc_M_sequence 52 = .ok (.iconst 4, 1) := by decide +kernel
theorem zd_M_sequence_53 : decode zc_M_sequence 53 = .ok (.isub, 1) := by decide +kernel
theorem zd_M_sequence_54 : decode zc_M_sequence 54 = .ok (.invokevirtual 70, 3) := by decide +kernel
theorem zd_M_sequence_57 : decode zc_M_sequence 57 = .ok (.return_, 1) := by decide +kernel
theorem zd_M_lastSequence_0 : decode zc_M_lastSequence 0 = .ok (.aload_n 0, 1) := by decide +kernel
theorem zd_M_lastSequence_1 : decode zc_M_lastSequence 1 = .ok (.iload_n 2, 1) := by decide +kernel
theorem zd_M_lastSequence_2 : decode zc_M_lastSequence 2 = .ok (.iload_n 1, 1) := by decide +kernel
theorem zd_M_lastSequence_3 : decode zc_M_lastSequence 3 = .ok (.isub, 1) := by decide +kernel
theorem zd_M_lastSequence_4 : decode zc_M_lastSequence 4 = .ok (.invokestatic 67, 3) := by decide +kernel
theorem zd_M_lastSequence_7 : decode zc_M_lastSequence 7 = .ok (.iconst 4, 1) := by decide +kernel
theorem zd_M_lastSequence_8 : decode zc_M_lastSequence 8 = .ok (.ishl, 1) := by decide +kernel
theorem zd_M_lastSequence_9 : decode zc_M_lastSequence 9 = .ok (.invokevirtual 63, 3) := by decide +kernel
theorem zd_M_lastSequence_12 : decode zc_M_lastSequence 12 = .ok (.aload_n 0, 1) := by decide +kernel
theorem zd_M_lastSequence_13 : decode zc_M_lastSequence 13 = .ok (.iload_n 2, 1) := by decide +kernel
theorem zd_M_lastSequence_14 : decode zc_M_lastSequence 14 = .ok (.iload_n 1, 1) := by decide +kernel
theorem zd_M_lastSequence_15 : decode zc_M_lastSequence 15 = .ok (.isub, 1) := by decide +kernel
theorem zd_M_lastSequence_16 : decode zc_M_lastSequence 16 = .ok (.invokevirtual 70, 3) := by decide +kernel
theorem zd_M_lastSequence_19 : decode zc_M_lastSequence 19 = .ok (.aload_n 0, 1) := by decide +kernel
theorem zd_M_lastSequence_20 : decode zc_M_lastSequence 20 = .ok (.iload_n 1, 1) := by decide +kernel
theorem zd_M_lastSequence_21 : decode zc_M_lastSequence 21 = .ok (.iload_n 2, 1) := by decide +kernel
theorem zd_M_lastSequence_22 : decode zc_M_lastSequence 22 = .ok (.invokevirtual 73, 3) := by decide +kernel
theorem zd_M_lastSequence_25 : decode zc_M_lastSequence 25 = .ok (.return_, 1) := by decide +kernel
theorem zd_M_literalElement_0 : decode zc_M_literalElement 0 = .ok (.iload_n 2, 1) := by decide +kernel
theorem zd_M_literalElement_1 : decode zc_M_literalElement 1 = .ok (.iload_n 1, 1) := by decide +kernel
theorem zd_M_literalElement_2 : decode zc_M_literalElement 2 = .ok (.isub, 1) := by decide +kernel
theorem zd_M_literalElement_3 : decode zc_M_literalElement 3 = .ok (.iconst 1, 1) := by decide +kernel
theorem zd_M_literalElement_4 : decode zc_M_literalElement 4 = .ok (.isub, 1) := by decide +kernel
theorem zd_M_literalElement_5 : decode zc_M_literalElement 5 = .ok (.istore_n 3, 1) := by decide +kernel
theorem zd_M_literalElement_6 : decode zc_M_literalElement 6 = .ok (.iload_n 3, 1) := by decide +kernel
theorem zd_M_literalElement_7 : decode zc_M_literalElement 7 = .ok (.ifCond .ge 4, 3) := by decide +kernel
theorem zd_M_literalElement_10 : decode zc_M_literalElement 10 = .ok (.return_, 1) := by decide +kernel
theorem zd_M_literalElement_11 : decode zc_M_literalElement 11 = .ok (.aload_n 0, 1) := by decide +kernel
theorem zd_M_literalElement_12 : decode zc_M_literalElement 12 = .ok (.iload_n 3, 1) := by decide +kernel
theorem zd_M_literalElement_13 : decode zc_M_literalElement 13 = .ok (.bipush 60, 2) := by decide +kernel
theorem zd_M_literalElement_15 : decode zc_M_literalElement 15 = .ok (.if_icmp .ge 7, 3) := by decide +kernel
theorem zd_M_literalElement_18 : decode zc_M_literalElement 18 = .ok (.iload_n 3, 1) := by decide +kernel
theorem zd_M_literalElement_19 : decode zc_M_literalElement 19 = .ok (.goto 5, 3) := by decide +kernel
theorem zd_M_literalElement_22 : decode zc_M_literalElement 22 = .ok (.bipush 60, 2) := by decide +kernel
theorem zd_M_literalElement_24 : decode zc_M_literalElement 24 = .ok (.iconst 2, 1) := by decide +kernel
theorem zd_M_literalElement_25 : decode zc_M_literalElement 25 = .ok (.ishl, 1) := by decide +kernel
theorem zd_M_literalElement_26 : decode zc_M_literalElement 26 = .ok (.invokevirtual 63, 3) := by decide +kernel
theorem zd_M_literalElement_29 : decode zc_M_literalElement 29 = .ok (.iload_n 3, 1) := by decide +kernel
theorem zd_M_literalElement_30 : decode zc_M_literalElement 30 = .ok (.bipush 59, 2) := by decide +kernel
theorem zd_M_literalElement_32 : decode zc_M_literalElement 32 = .ok (.if_icmp .le 8, 3) := by decide +kernel
theorem zd_M_literalElement_35 : decode zc_M_literalElement 35 = .ok (.aload_n 0, 1) := by decide +kernel
theorem zd_M_literalElement_36 : decode zc_M_literalElement 36 = .ok (.iload_n 3, 1) := by decide +kernel
theorem zd_M_literalElement_37 : decode zc_M_literalElement 37 = .ok (.invokevirtual 63, 3) := by decide +kernel
theorem zd_M_literalElement_40 : decode zc_M_literalElement 40 = .ok (.aload_n 0, 1) := by decide +kernel
theorem zd_M_literalElement_41 : decode zc_M_literalElement 41 = .ok (.iload_n 1, 1) := by decide +kernel
theorem zd_M_literalElement_42 : decode zc_M_literalElement 42 = .ok (.iload_n 2, 1) := by decide +kernel
theorem zd_M_literalElement_43 : decode zc_M_literalElement 43 = .ok (.invokevirtual 73, 3) := by decide +kernel
theorem zd_M_literalElement_46 : decode zc_M_literalElement 46 = .ok (.return_, 1) := by decide +kernel
theorem zd_M_copyElement_0 : decode zc_M_copyElement 0 = .ok (.iload_n 1, 1) := by decide +kernel
theorem zd_M_copyElement_1 : decode zc_M_copyElement 1 = .ok (.iconst 3, 1) := by decide +kernel
theorem zd_M_copyElement_2 : decode zc_M_copyElement 2 = .ok (.if_icmp .le 40, 3) := by decide +kernel
theorem zd_M_copyElement_5 : decode zc_M_copyElement 5 = .ok (.iload_n 1, 1) := by decide +kernel
theorem zd_M_copyElement_6 : decode zc_M_copyElement 6 = .ok (.bipush 12, 2) := by decide +kernel
theorem zd_M_copyElement_8 : decode zc_M_copyElement 8 = .ok (.if_icmp .ge 34, 3) := by decide +kernel
theorem zd_M_copyElement_11 : decode zc_M_copyElement 11 = .ok (.iload_n 2, 1) := by decide +kernel
theorem zd_M_copyElement_12 : decode zc_M_copyElement 12 = .ok (.sipush 2048, 3) := by decide +kernel
theorem zd_M_copyElement_15 : decode zc_M_copyElement 15 = .ok (.if_icmp .ge 27, 3) := by decide +kernel
theorem zd_M_copyElement_18 : decode zc_M_copyElement 18 = .ok (.aload_n 0, 1) := by decide +kernel
theorem zd_M_copyElement_19 : decode zc_M_copyElement 19 = .ok (.iconst 1, 1) := by decide +kernel
theorem zd_M_copyElement_20 : decode zc_M_copyElement 20 = .ok (.iload_n 1, 1) := by decide +kernel
theorem zd_M_copyElement_21 : decode zc_M_copyElement 21 = .ok (.iconst 4, 1) := by decide +kernel
theorem zd_M_copyElement_22 : decode zc_M_copyElement 22 = .ok (.isub, 1) := by decide +kernel
theorem zd_M_copyElement_23 : decode zc_M_copyElement 23 = .ok (.iconst 2, 1) := by decide +kernel
theorem zd_M_copyElement_24 : decode zc_M_copyElement 24 = .ok (.ishl, 1) := by decide +kernel
theorem zd_M_copyElement_25 : decode zc_M_copyElement 25 = .ok (.ior, 1) := by decide +kernel
theorem zd_M_copyElement_26 : decode zc_M_copyElement 26 = .ok (.iload_n 2, 1) := by decide +kernel
theorem zd_M_copyElement_27 : decode zc_M_copyElement 27 = .ok (.bipush 8, 2) := by decide +kernel
theorem zd_M_copyElement_29 : decode zc_M_copyElement 29 = .ok (.ishr, 1) := by decide +kernel
theorem zd_M_copyElement_30 : decode zc_M_copyElement 30 = .ok (.iconst 5, 1) := by decide +kernel
theorem zd_M_copyElement_31 : decode zc_M_copyElement 31 = .ok (.ishl, 1) := by decide +kernel
theorem zd_M_copyElement_32 : decode zc_M_copyElement 32 = .ok (.ior, 1) := by decide +kernel
theorem zd_M_copyElement_33 : decode zc_M_copyElement 33 = .ok (.invokevirtual 63, 3) := by decide +kernel
theorem zd_M_copyElement_36 : decode zc_M_copyElement 36 = .ok (.aload_n 0, 1) := by decide +kernel
theorem zd_M_copyElement_37 : decode zc_M_copyElement 37 = .ok (.iload_n 2, 1) := by decide +kernel
theorem zd_M_copyElement_38 : decode zc_M_copyElement 38 = .ok (.invokevirtual 63, 3) := by decide +kernel
theorem zd_M_copyElement_41 : decode zc_M_copyElement 41 = .ok (.return_, 1) := by decide +kernel
theorem zd_M_copyElement_42 : decode zc_M_copyElement 42 = .ok (.aload_n 0, 1) := by decide +kernel
theorem zd_M_copyElement_43 : decode zc_M_copyElement 43 = .ok (.iconst 2, 1) := by decide +kernel
theorem zd_M_copyElement_44 : decode zc_M_copyElement 44 = .ok (.iload_n 1, 1) := by decide +kernel
theorem zd_M_copyElement_45 : decode zc_M_copyElement 45 = .ok (.iconst 1, 1) := by decide +kernel
theorem zd_M_copyElement_46 : decode zc_M_copyElement 46 = .ok (.isub, 1) := by decide +kernel
theorem zd_M_copyElement_47 : decode zc_M_copyElement 47 = .ok (.iconst 2, 1) := by decide +kernel
theorem zd_M_copyElement_48 : decode zc_M_copyElement 48 = .ok (.ishl, 1) := by decide +kernel
theorem zd_M_copyElement_49 : decode zc_M_copyElement 49 = .ok (.ior, 1) := by decide +kernel
theorem zd_M_copyElement_50 : decode zc_M_copyElement 50 = .ok (.invokevirtual 63, 3) := by decide +kernel
theorem zd_M_copyElement_53 : decode zc_M_copyElement 53 = .ok (.aload_n 0, 1) := by decide +kernel
theorem zd_M_copyElement_54 : decode zc_M_copyElement 54 = .ok (.iload_n 2, 1) := by decide +kernel
theorem zd_M_copyElement_55 : decode zc_M_copyElement 55 = .ok (.invokevirtual 63, 3) := by decide +kernel
theorem zd_M_copyElement_58 : decode zc_M_copyElement 58 = .ok (.aload_n 0, 1) := by decide +kernel
theorem zd_M_copyElement_59 : decode zc_M_copyElement 59 = .ok (.iload_n 2, 1) := by decide +kernel
theorem zd_M_copyElement_60 : decode zc_M_copyElement 60 = .ok (.bipush 8, 2) := by decide +kernel
theorem zd_M_copyElement_62 : decode zc_M_copyElement 62 = .ok (.ishr, 1) := by decide +kernel
theorem zd_M_copyElement_63 : decode zc_M_copyElement 63 = .ok (.invokevirtual 63, 3) := by decide +kernel
theorem zd_M_copyElement_66 : decode zc_M_copyElement 66 = .ok (.return_, 1) := by decide +kernel
theorem zd_M_copyElements_0 : decode zc_M_copyElements 0 = .ok (.iload_n 1, 1) := by decide +kernel
theorem zd_M_copyElements_1 : decode zc_M_copyElements 1 = .ok (.istore_n 3, 1) := by decide +kernel
theorem zd_M_copyElements_2 : decode zc_M_copyElements 2 = .ok (.iload_n 3, 1) := by decide +kernel
theorem zd_M_copyElements_3 : decode zc_M_copyElements 3 = .ok (.bipush 68, 2) := by decide +kernel
theorem zd_M_copyElements_5 : decode zc_M_copyElements 5 = .ok (.if_icmp .lt 16, 3) := by decide +kernel
theorem zd_M_copyElements_8 : decode zc_M_copyElements 8 = .ok (.aload_n 0, 1) := by decide +kernel
theorem zd_M_copyElements_9 : decode zc_M_copyElements 9 = .ok (.bipush 64, 2) := by decide +kernel
theorem zd_M_copyElements_11 : decode zc_M_copyElements 11 = .ok (.iload_n 2, 1) := by decide +kernel
theorem zd_M_copyElements_12 : decode zc_M_copyElements 12 = .ok (.invokevirtual 77, 3) := by decide +kernel
theorem zd_M_copyElements_15 : decode zc_M_copyElements 15 = .ok (.iinc 3 (-64), 3) := by decide +kernel
theorem zd_M_copyElements_18 : decode zc_M_copyElements 18 = .ok (.goto (-16), 3) := by decide +kernel
theorem zd_M_copyElements_21 : decode zc_M_copyElements 21 = .ok (.iload_n 3, 1) := by decide +kernel
theorem zd_M_copyElements_22 : decode zc_M_copyElements 22 = .ok (.bipush 64, 2) := by decide +kernel
theorem zd_M_copyElements_24 : decode zc_M_copyElements 24 = .ok (.if_icmp .le 13, 3) := by decide +kernel
theorem zd_M_copyElements_27 : decode zc_M_copyElements 27 = .ok (.aload_n 0, 1) := by decide +kernel
theorem zd_M_copyElements_28 : decode zc_M_copyElements 28 = .ok (.bipush 60, 2) := by decide +kernel
theorem zd_M_copyElements_30 : decode zc_M_copyElements 30 = .ok (.iload_n 2, 1) := by decide +kernel
theorem zd_M_copyElements_31 : decode zc_M_copyElements 31 = .ok (.invokevirtual 77, 3) := by decide +kernel
theorem zd_M_copyElements_34 : decode zc_M_copyElements 34 = .ok (.iinc 3 (-60), 3) := by decide +kernel
theorem zd_M_copyElements_37 : decode zc_M_copyElements 37 = .ok (.aload_n 0, 1) := by decide +kernel
theorem zd_M_copyElements_38 : decode zc_M_copyElements 38 = .ok (.iload_n 3, 1) := by decide +kernel
theorem zd_M_copyElements_39 : decode zc_M_copyElements 39 = .ok (.iload_n 2, 1) := by decide +kernel
theorem zd_M_copyElements_40 : decode zc_M_copyElements 40 = .ok (.invokevirtual 77, 3) := by decide +kernel
theorem zd_M_copyElements_43 : decode zc_M_copyElements 43 = .ok (.return_, 1) := by decide +kernel
theorem zd_M_same_0 : decode zc_M_same 0 = .ok (.iconst 0, 1) := by decide +kernel
theorem zd_M_same_1 : decode zc_M_same 1 = .ok (.istore_n 3, 1) := by decide +kernel
theorem zd_M_same_2 : decode zc_M_same 2 = .ok (.iload_n 2, 1) := by decide +kernel
theorem zd_M_same_3 : decode zc_M_same 3 = .ok (.iload_n 3, 1) := by decide +kernel
theorem zd_M_same_4 : decode zc_M_same 4 = .ok (.iadd, 1) := by decide +kernel
theorem zd_M_same_5 : decode zc_M_same 5 = .ok (.aload_n 0, 1) := by decide +kernel
theorem zd_M_same_6 : decode zc_M_same 6 = .ok (.getfield 57, 3) := by decide +kernel
theorem zd_M_same_9 : decode zc_M_same 9 = .ok (.iconst 5, 1) := by decide +kernel
theorem zd_M_same_10 : decode zc_M_same 10 = .ok (.isub, 1) := by decide +kernel
theorem zd_M_same_11 : decode zc_M_same 11 = .ok (.if_icmp .ge 28, 3) := by decide +kernel
theorem zd_M_same_14 : decode zc_M_same 14 = .ok (.aload_n 0, 1) := by decide +kernel
theorem zd_M_same_15 : decode zc_M_same 15 = .ok (.getfield 16, 3) := by decide +kernel
theorem zd_M_same_18 : decode zc_M_same 18 = .ok (.iload_n 1, 1) := by decide +kernel
theorem zd_M_same_19 : decode zc_M_same 19 = .ok (.iload_n 3, 1) := by decide +kernel
theorem zd_M_same_20 : decode zc_M_same 20 = .ok (.iadd, 1) := by decide +kernel
theorem zd_M_same_21 : decode zc_M_same 21 = .ok (.iaload, 1) := by decide +kernel
theorem zd_M_same_22 : decode zc_M_same 22 = .ok (.aload_n 0, 1) := by decide +kernel
theorem zd_M_same_23 : decode zc_M_same 23 = .ok (.getfield 16, 3) := by decide +kernel
theorem zd_M_same_26 : decode zc_M_same 26 = .ok (.iload_n 2, 1) := by decide +kernel
theorem zd_M_same_27 : decode zc_M_same 27 = .ok (.iload_n 3, 1) := by decide +kernel
theorem zd_M_same_28 : decode zc_M_same 28 = .ok (.iadd, 1) := by decide +kernel
theorem zd_M_same_29 : decode zc_M_same 29 = .ok (.iaload, 1) := by decide +kernel
theorem zd_M_same_30 : decode zc_M_same 30 = .ok (.if_icmp .ne 9, 3) := by decide +kernel
theorem zd_M_same_33 : decode zc_M_same 33 = .ok (.iinc 3 1, 3) := by decide +kernel
theorem zd_M_same_36 : decode zc_M_same 36 = .ok (.goto (-34), 3) := by decide +kernel
theorem zd_M_same_39 : decode zc_M_same 39 = .ok (.iload_n 3, 1) := by decide +kernel
theorem zd_M_same_40 : decode zc_M_same 40 = .ok (.ireturn, 1) := by decide +kernel
theorem zd_M_packs_0 : decode zc_M_packs 0 = .ok (.iconst 0, 1) := by decide +kernel
theorem zd_M_packs_1 : decode zc_M_packs 1 = .ok (.istore_n 2, 1) := by decide +kernel
theorem zd_M_packs_2 : decode zc_M_packs 2 = .ok (.iload_n 2, 1) := by decide +kernel
theorem zd_M_packs_3 : decode zc_M_packs 3 = .ok (.bipush 32, 2) := by decide +kernel
theorem zd_M_packs_5 : decode zc_M_packs 5 = .ok (.if_icmp .ge 16, 3) := by decide +kernel
theorem zd_M_packs_8 : decode zc_M_packs 8 = .ok (.aload_n 0, 1) := by decide +kernel
theorem zd_M_packs_9 : decode zc_M_packs 9 = .ok (.getfield 19, 3) := by decide +kernel
theorem zd_M_packs_12 : decode zc_M_packs 12 = .ok (.iload_n 2, 1) := by decide +kernel
theorem zd_M_packs_13 : decode zc_M_packs 13 = .ok (.iconst (-1), 1) := by decide +kernel
theorem zd_M_packs_14 : decode zc_M_packs 14 = .ok (.iastore, 1) := by decide +kernel
theorem zd_M_packs_15 : decode zc_M_packs 15 = .ok (.iinc 2 1, 3) := by decide +kernel
theorem zd_M_packs_18 : decode zc_M_packs 18 = .ok (.goto (-16), 3) := by decide +kernel
theorem zd_M_packs_21 : decode zc_M_packs 21 = .ok (.iconst 0, 1) := by decide +kernel
theorem zd_M_packs_22 : decode zc_M_packs 22 = .ok (.istore_n 2, 1) := by decide +kernel
theorem zd_M_packs_23 : decode zc_M_packs 23 = .ok (.iload_n 2, 1) := by decide +kernel
theorem zd_M_packs_24 : decode zc_M_packs 24 = .ok (.iconst 4, 1) := by decide +kernel
theorem zd_M_packs_25 : decode zc_M_packs 25 = .ok (.iadd, 1) := by decide +kernel
theorem zd_M_packs_26 : decode zc_M_packs 26 = .ok (.aload_n 0, 1) := by decide +kernel
theorem zd_M_packs_27 : decode zc_M_packs 27 = .ok (.getfield 54, 3) := by decide +kernel
theorem zd_M_packs_30 : decode zc_M_packs 30 = .ok (.if_icmp .gt 20, 3) := by decide +kernel
theorem zd_M_packs_33 : decode zc_M_packs 33 = .ok (.aload_n 0, 1) := by decide +kernel
theorem zd_M_packs_34 : decode zc_M_packs 34 = .ok (.getfield 19, 3) := by decide +kernel
theorem zd_M_packs_37 : decode zc_M_packs 37 = .ok (.aload_n 0, 1) := by decide +kernel
theorem zd_M_packs_38 : decode zc_M_packs 38 = .ok (.iload_n 2, 1) := by decide +kernel
theorem zd_M_packs_39 : decode zc_M_packs 39 = .ok (.invokevirtual 80, 3) := by decide +kernel
theorem zd_M_packs_42 : decode zc_M_packs 42 = .ok (.iload_n 2, 1) := by decide +kernel
theorem zd_M_packs_43 : decode zc_M_packs 43 = .ok (.iastore, 1) := by decide +kernel
theorem zd_M_packs_44 : decode zc_M_packs 44 = .ok (.iinc 2 1, 3) := by decide +kernel
theorem zd_M_packs_47 : decode zc_M_packs 47 = .ok (.goto (-24), 3) := by decide +kernel
theorem zd_M_packs_50 : decode zc_M_packs 50 = .ok (.aload_n 0, 1) := by decide +kernel
theorem zd_M_packs_51 : decode zc_M_packs 51 = .ok (.getfield 54, 3) := by decide +kernel
theorem zd_M_packs_54 : decode zc_M_packs 54 = .ok (.istore_n 2, 1) := by decide +kernel
theorem zd_M_packs_55 : decode zc_M_packs 55 = .ok (.aload_n 0, 1) := by decide +kernel
theorem zd_M_packs_56 : decode zc_M_packs 56 = .ok (.getfield 54, 3) := by decide +kernel
theorem zd_M_packs_59 : decode zc_M_packs 59 = .ok (.istore_n 3, 1) := by decide +kernel
theorem zd_M_packs_60 : decode zc_M_packs 60 = .ok (.aload_n 0, 1) := by decide +kernel
theorem zd_M_packs_61 : decode zc_M_packs 61 = .ok (.getfield 57, 3) := by decide +kernel
theorem zd_M_packs_64 : decode zc_M_packs 64 = .ok (.iload_n 3, 1) := by decide +kernel
theorem zd_M_packs_65 : decode zc_M_packs 65 = .ok (.isub, 1) := by decide +kernel
theorem zd_M_packs_66 : decode zc_M_packs 66 = .ok (.bipush 12, 2) := by decide +kernel
theorem zd_M_packs_68 : decode zc_M_packs 68 = .ok (.if_icmp .lt 127, 3) := by decide +kernel
theorem zd_M_packs_71 : decode zc_M_packs 71 = .ok (.aload_n 0, 1) := by decide +kernel
theorem zd_M_packs_72 : decode zc_M_packs 72 = .ok (.iload_n 3, 1) := by decide +kernel
theorem zd_M_packs_73 : decode zc_M_packs 73 = .ok (.invokevirtual 80, 3) := by decide +kernel
theorem zd_M_packs_76 : decode zc_M_packs 76 = .ok (.istore 4, 2) := by decide +kernel
theorem zd_M_packs_78 : decode zc_M_packs 78 = .ok (.aload_n 0, 1) := by decide +kernel
theorem zd_M_packs_79 : decode zc_M_packs 79 = .ok (.getfield 19, 3) := by decide +kernel
theorem zd_M_packs_82 : decode zc_M_packs 82 = .ok (.iload 4, 2) := by decide +kernel
theorem zd_M_packs_84 : decode zc_M_packs 84 = .ok (.iaload, 1) := by decide +kernel
theorem zd_M_packs_85 : decode zc_M_packs 85 = .ok (.istore 5, 2) := by decide +kernel
theorem zd_M_packs_87 : decode zc_M_packs 87 = .ok (.aload_n 0, 1) := by decide +kernel
theorem zd_M_packs_88 : decode zc_M_packs 88 = .ok (.getfield 19, 3) := by decide +kernel
theorem zd_M_packs_91 : decode zc_M_packs 91 = .ok (.iload 4, 2) := by decide +kernel
theorem zd_M_packs_93 : decode zc_M_packs 93 = .ok (.iload_n 3, 1) := by decide +kernel
theorem zd_M_packs_94 : decode zc_M_packs 94 = .ok (.iastore, 1) := by decide +kernel
theorem zd_M_packs_95 : decode zc_M_packs 95 = .ok (.iload 5, 2) := by decide +kernel
theorem zd_M_packs_97 : decode zc_M_packs 97 = .ok (.ifCond .lt 92, 3) := by decide +kernel
theorem zd_M_packs_100 : decode zc_M_packs 100 = .ok (.aload_n 0, 1) := by decide +kernel
theorem zd_M_packs_101 : decode zc_M_packs 101 = .ok (.iload 5, 2) := by decide +kernel
theorem zd_M_packs_103 : decode zc_M_packs 103 = .ok (.invokevirtual 50, 3) := by decide +kernel
theorem zd_M_packs_106 : decode zc_M_packs 106 = .ok (.aload_n 0, 1) := by decide +kernel
theorem zd_M_packs_107 : decode zc_M_packs 107 = .ok (.iload_n 3, 1) := by decide +kernel
theorem zd_M_packs_108 : decode zc_M_packs 108 = .ok (.invokevirtual 50, 3) := by decide +kernel
theorem zd_M_packs_111 : decode zc_M_packs 111 = .ok (.if_icmp .ne 78, 3) := by decide +kernel
theorem zd_M_packs_114 : decode zc_M_packs 114 = .ok (.aload_n 0, 1) := by decide +kernel
theorem zd_M_packs_115 : decode zc_M_packs 115 = .ok (.iload 5, 2) := by decide +kernel
theorem zd_M_packs_117 : decode zc_M_packs 117 = .ok (.iload_n 3, 1) := by decide +kernel
theorem zd_M_packs_118 : decode zc_M_packs 118 = .ok (.invokevirtual 83, 3) := by decide +kernel
theorem zd_M_packs_121 : decode zc_M_packs 121 = .ok (.istore 6, 2) := by decide +kernel
theorem zd_M_packs_123 : decode zc_M_packs 123 = .ok (.iload_n 1, 1) := by decide +kernel
theorem zd_M_packs_124 : decode zc_M_packs 124 = .ok (.ifCond .ne 18, 3) := by decide +kernel
theorem zd_M_packs_127 : decode zc_M_packs 127 = .ok (.aload_n 0, 1) := by decide +kernel
theorem zd_M_packs_128 : decode zc_M_packs 128 = .ok (.iload_n 2, 1) := by decide +kernel
theorem zd_M_packs_129 : decode zc_M_packs 129 = .ok (.iload_n 3, 1) := by decide +kernel
theorem zd_M_packs_130 : decode zc_M_packs 130 = .ok (.iload 6, 2) := by decide +kernel
theorem zd_M_packs_132 : decode zc_M_packs 132 = .ok (.iload_n 3, 1) := by decide +kernel
theorem zd_M_packs_133 : decode zc_M_packs 133 = .ok (.iload 5, 2) := by decide +kernel
theorem zd_M_packs_135 : decode zc_M_packs 135 = .ok (.isub, 1) := by decide +kernel
theorem zd_M_packs_136 : decode zc_M_packs 136 = .ok (.invokevirtual 87, 3) := by decide +kernel
theorem zd_M_packs_139 : decode zc_M_packs 139 = .ok (.goto 19, 3) := by decide +kernel
theorem zd_M_packs_142 : decode zc_M_packs 142 = .ok (.aload_n 0, 1) := by decide +kernel
theorem zd_M_packs_143 : decode zc_M_packs 143 = .ok (.iload_n 2, 1) := by decide +kernel
theorem zd_M_packs_144 : decode zc_M_packs 144 = .ok (.iload_n 3, 1) := by decide +kernel
theorem zd_M_packs_145 : decode zc_M_packs 145 = .ok (.invokevirtual 91, 3) := by decide +kernel
theorem zd_M_packs_148 : decode zc_M_packs 148 = .ok (.aload_n 0, 1) := by decide +kernel
theorem zd_M_packs_149 : decode zc_M_packs 149 = .ok (.iload 6, 2) := by decide +kernel
theorem zd_M_packs_151 : decode zc_M_packs 151 = .ok (.iload_n 3, 1) := by decide +kernel
theorem zd_M_packs_152 : decode zc_M_packs 152 = .ok (.iload 5, 2) := by decide +kernel
theorem zd_M_packs_154 : decode zc_M_packs 154 = .ok (.isub, 1) := by decide +kernel
theorem zd_M_packs_155 : decode zc_M_packs 155 = .ok (.invokevirtual 94, 3) := by decide +kernel
theorem zd_M_packs_158 : decode zc_M_packs 158 = .ok (.aload_n 0, 1) := by decide +kernel
theorem zd_M_packs_159 : decode zc_M_packs 159 = .ok (.dup, 1) := by decide +kernel
theorem zd_M_packs_160 : decode zc_M_packs 160 = .ok (.getfield 40, 3) := by decide +kernel
theorem zd_M_packs_163 : decode zc_M_packs 163 = .ok (.iconst 1, 1) := by decide +kernel
theorem zd_M_packs_164 : decode zc_M_packs 164 = .ok (.iadd, 1) := by decide +kernel
theorem zd_M_packs_165 : decode zc_M_packs 165 = .ok (.putfield 40, 3) := by decide +kernel
theorem zd_M_packs_168 : decode zc_M_packs 168 = .ok (.aload_n 0, 1) := by decide +kernel
theorem zd_M_packs_169 : decode zc_M_packs 169 = .ok (.dup, 1) := by decide +kernel
theorem zd_M_packs_170 : decode zc_M_packs 170 = .ok (.getfield 43, 3) := by decide +kernel
theorem zd_M_packs_173 : decode zc_M_packs 173 = .ok (.iload 6, 2) := by decide +kernel
theorem zd_M_packs_175 : decode zc_M_packs 175 = .ok (.iadd, 1) := by decide +kernel
theorem zd_M_packs_176 : decode zc_M_packs 176 = .ok (.putfield 43, 3) := by decide +kernel
theorem zd_M_packs_179 : decode zc_M_packs 179 = .ok (.iload_n 3, 1) := by decide +kernel
theorem zd_M_packs_180 : decode zc_M_packs 180 = .ok (.iload 6, 2) := by decide +kernel
theorem zd_M_packs_182 : decode zc_M_packs 182 = .ok (.iadd, 1) := by decide +kernel
theorem zd_M_packs_183 : decode zc_M_packs 183 = .ok (.istore_n 3, 1) := by decide +kernel
theorem zd_M_packs_184 : decode zc_M_packs 184 = .ok (.iload_n 3, 1) := by decide +kernel
theorem zd_M_packs_185 : decode zc_M_packs 185 = .ok (.istore_n 2, 1) := by decide +kernel
theorem zd_M_packs_186 : decode zc_M_packs 186 = .ok (.goto 6, 3) := by decide +kernel
theorem zd_M_packs_189 : decode zc_M_packs 189 = .ok (.iinc 3 1, 3) := by decide +kernel
theorem zd_M_packs_192 : decode zc_M_packs 192 = .ok (.goto (-132), 3) := by decide +kernel
theorem zd_M_packs_195 : decode zc_M_packs 195 = .ok (.iload_n 1, 1) := by decide +kernel
theorem zd_M_packs_196 : decode zc_M_packs 196 = .ok (.ifCond .ne 15, 3) := by decide +kernel
theorem zd_M_packs_199 : decode zc_M_packs 199 = .ok (.aload_n 0, 1) := by decide +kernel
theorem zd_M_packs_200 : decode zc_M_packs 200 = .ok (.iload_n 2, 1) := by decide +kernel
theorem zd_M_packs_201 : decode zc_M_packs 201 = .ok (.aload_n 0, 1) := by decide +kernel
theorem zd_M_packs_202 : decode zc_M_packs 202 = .ok (.getfield 57, 3) := by decide +kernel
theorem zd_M_packs_205 : decode zc_M_packs 205 = .ok (.invokevirtual 97, 3) := by decide +kernel
theorem zd_M_packs_208 : decode zc_M_packs 208 = .ok (.goto 12, 3) := by decide +kernel
theorem zd_M_packs_211 : decode zc_M_packs 211 = .ok (.aload_n 0, 1) := by decide +kernel
theorem zd_M_packs_212 : decode zc_M_packs 212 = .ok (.iload_n 2, 1) := by decide +kernel
theorem zd_M_packs_213 : decode zc_M_packs 213 = .ok (.aload_n 0, 1) := by decide +kernel
theorem zd_M_packs_214 : decode zc_M_packs 214 = .ok (.getfield 57, 3) := by decide +kernel
theorem zd_M_packs_217 : decode zc_M_packs 217 = .ok (.invokevirtual 91, 3) := by decide +kernel
theorem zd_M_packs_220 : decode zc_M_packs 220 = .ok (.return_, 1) := by decide +kernel
theorem zd_M_pack_0 : decode zc_M_pack 0 = .ok (.aload_n 0, 1) := by decide +kernel
theorem zd_M_pack_1 : decode zc_M_pack 1 = .ok (.iload_n 1, 1) := by decide +kernel
theorem zd_M_pack_2 : decode zc_M_pack 2 = .ok (.ifCond .eq 12, 3) := by decide +kernel
theorem zd_M_pack_5 : decode zc_M_pack 5 = .ok (.iload_n 1, 1) := by decide +kernel
theorem zd_M_pack_6 : decode zc_M_pack 6 = .ok (.iconst 1, 1) := by decide +kernel
theorem zd_M_pack_7 : decode zc_M_pack 7 = .ok (.if_icmp .eq 7, 3) := by decide +kernel
theorem zd_M_pack_10 : decode zc_M_pack 10 = .ok (.iconst 1, 1) := by decide +kernel
theorem zd_M_pack_11 : decode zc_M_pack 11 = .ok (.goto 4, 3) := by decide +kernel
theorem zd_M_pack_14 : decode zc_M_pack 14 = .ok (.iconst 0, 1) := by decide +kernel
theorem zd_M_pack_15 : decode zc_M_pack 15 = .ok (.iconst 0, 1) := by decide +kernel
theorem zd_M_pack_16 : decode zc_M_pack 16 = .ok (.invokevirtual 34, 3) := by decide +kernel
theorem zd_M_pack_19 : decode zc_M_pack 19 = .ok (.ifCond .eq 5, 3) := by decide +kernel
theorem zd_M_pack_22 : decode zc_M_pack 22 = .ok (.iconst 0, 1) := by decide +kernel
theorem zd_M_pack_23 : decode zc_M_pack 23 = .ok (.ireturn, 1) := by decide +kernel
theorem zd_M_pack_24 : decode zc_M_pack 24 = .ok (.aload_n 0, 1) := by decide +kernel
theorem zd_M_pack_25 : decode zc_M_pack 25 = .ok (.invokevirtual 100, 3) := by decide +kernel
theorem zd_M_pack_28 : decode zc_M_pack 28 = .ok (.iconst 0, 1) := by decide +kernel
theorem zd_M_pack_29 : decode zc_M_pack 29 = .ok (.istore_n 2, 1) := by decide +kernel
theorem zd_M_pack_30 : decode zc_M_pack 30 = .ok (.iload_n 2, 1) := by decide +kernel
theorem zd_M_pack_31 : decode zc_M_pack 31 = .ok (.aload_n 0, 1) := by decide +kernel
theorem zd_M_pack_32 : decode zc_M_pack 32 = .ok (.getfield 13, 3) := by decide +kernel
theorem zd_M_pack_35 : decode zc_M_pack 35 = .ok (.iconst 0, 1) := by decide +kernel
theorem zd_M_pack_36 : decode zc_M_pack 36 = .ok (.iaload, 1) := by decide +kernel
theorem zd_M_pack_37 : decode zc_M_pack 37 = .ok (.if_icmp .ge 26, 3) := by decide +kernel
theorem zd_M_pack_40 : decode zc_M_pack 40 = .ok (.aload_n 0, 1) := by decide +kernel
theorem zd_M_pack_41 : decode zc_M_pack 41 = .ok (.getfield 16, 3) := by decide +kernel
theorem zd_M_pack_44 : decode zc_M_pack 44 = .ok (.aload_n 0, 1) := by decide +kernel
theorem zd_M_pack_45 : decode zc_M_pack 45 = .ok (.getfield 54, 3) := by decide +kernel
theorem zd_M_pack_48 : decode zc_M_pack 48 = .ok (.iload_n 2, 1) := by decide +kernel
theorem zd_M_pack_49 : decode zc_M_pack 49 = .ok (.iadd, 1) := by decide +kernel
theorem zd_M_pack_50 : decode zc_M_pack 50 = .ok (.aload_n 0, 1) := by decide +kernel
theorem zd_M_pack_51 : decode zc_M_pack 51 = .ok (.getfield 7, 3) := by decide +kernel
theorem zd_M_pack_54 : decode zc_M_pack 54 = .ok (.iload_n 2, 1) := by decide +kernel
theorem zd_M_pack_55 : decode zc_M_pack 55 = .ok (.iaload, 1) := by decide +kernel
theorem zd_M_pack_56 : decode zc_M_pack 56 = .ok (.iastore, 1) := by decide +kernel
theorem zd_M_pack_57 : decode zc_M_pack 57 = .ok (.iinc 2 1, 3) := by decide +kernel
theorem zd_M_pack_60 : decode zc_M_pack 60 = .ok (.goto (-30), 3) := by decide +kernel
theorem zd_M_pack_63 : decode zc_M_pack 63 = .ok (.aload_n 0, 1) := by decide +kernel
theorem zd_M_pack_64 : decode zc_M_pack 64 = .ok (.aload_n 0, 1) := by decide +kernel
theorem zd_M_pack_65 : decode zc_M_pack 65 = .ok (.getfield 54, 3) := by decide +kernel
theorem zd_M_pack_68 : decode zc_M_pack 68 = .ok (.aload_n 0, 1) := by decide +kernel
theorem zd_M_pack_69 : decode zc_M_pack 69 = .ok (.getfield 13, 3) := by decide +kernel
theorem zd_M_pack_72 : decode zc_M_pack 72 = .ok (.iconst 0, 1) := by decide +kernel
theorem zd_M_pack_73 : decode zc_M_pack 73 = .ok (.iaload, 1) := by decide +kernel
theorem zd_M_pack_74 : decode zc_M_pack 74 = .ok (.iadd, 1) := by decide +kernel
theorem zd_M_pack_75 : decode zc_M_pack 75 = .ok (.putfield 57, 3) := by decide +kernel
theorem zd_M_pack_78 : decode zc_M_pack 78 = .ok (.aload_n 0, 1) := by decide +kernel
theorem zd_M_pack_79 : decode zc_M_pack 79 = .ok (.iconst 0, 1) := by decide +kernel
theorem zd_M_pack_80 : decode zc_M_pack 80 = .ok (.putfield 40, 3) := by decide +kernel
theorem zd_M_pack_83 : decode zc_M_pack 83 = .ok (.aload_n 0, 1) := by decide +kernel
theorem zd_M_pack_84 : decode zc_M_pack 84 = .ok (.iconst 0, 1) := by decide +kernel
theorem zd_M_pack_85 : decode zc_M_pack 85 = .ok (.putfield 43, 3) := by decide +kernel
theorem zd_M_pack_88 : decode zc_M_pack 88 = .ok (.aload_n 0, 1) := by decide +kernel
theorem zd_M_pack_89 : decode zc_M_pack 89 = .ok (.iconst 0, 1) := by decide +kernel
theorem zd_M_pack_90 : decode zc_M_pack 90 = .ok (.putfield 60, 3) := by decide +kernel
theorem zd_M_pack_93 : decode zc_M_pack 93 = .ok (.iload_n 1, 1) := by decide +kernel
theorem zd_M_pack_94 : decode zc_M_pack 94 = .ok (.iconst 1, 1) := by decide +kernel
theorem zd_M_pack_95 : decode zc_M_pack 95 = .ok (.if_icmp .ne 47, 3) := by decide +kernel
theorem zd_M_pack_98 : decode zc_M_pack 98 = .ok (.aload_n 0, 1) := by decide +kernel
theorem zd_M_pack_99 : decode zc_M_pack 99 = .ok (.getfield 13, 3) := by decide +kernel
theorem zd_M_pack_102 : decode zc_M_pack 102 = .ok (.iconst 0, 1) := by decide +kernel
theorem zd_M_pack_103 : decode zc_M_pack 103 = .ok (.iaload, 1) := by decide +kernel
theorem zd_M_pack_104 : decode zc_M_pack 104 = .ok (.istore_n 2, 1) := by decide +kernel
theorem zd_M_pack_105 : decode zc_M_pack 105 = .ok (.aload_n 0, 1) := by decide +kernel
theorem zd_M_pack_106 : decode zc_M_pack 106 = .ok (.iload_n 2, 1) := by decide +kernel
theorem zd_M_pack_107 : decode zc_M_pack 107 = .ok (.sipush 128, 3) := by decide +kernel
theorem zd_M_pack_110 : decode zc_M_pack 110 = .ok (.if_icmp .ge 7, 3) := by decide +kernel
theorem zd_M_pack_113 : decode zc_M_pack 113 = .ok (.iload_n 2, 1) := by decide +kernel
theorem zd_M_pack_114 : decode zc_M_pack 114 = .ok (.goto 11, 3) := by decide +kernel
theorem zd_M_pack_117 : decode zc_M_pack 117 = .ok (.iload_n 2, 1) := by decide +kernel
theorem zd_M_pack_118 : decode zc_M_pack 118 = .ok (.bipush 127, 2) := by decide +kernel
theorem zd_M_pack_120 : decode zc_M_pack 120 = .ok (.iand, 1) := by decide +kernel
theorem zd_M_pack_121 : decode zc_M_pack 121 = .ok (.sipush 128, 3) := by decide +kernel
theorem zd_M_pack_124 : decode zc_M_pack 124 = .ok (.ior, 1) := by decide +kernel
theorem zd_M_pack_125 : decode zc_M_pack 125 = .ok (.invokevirtual 63, 3) := by decide +kernel
theorem zd_M_pack_128 : decode zc_M_pack 128 = .ok (.iload_n 2, 1) := by decide +kernel
theorem zd_M_pack_129 : decode zc_M_pack 129 = .ok (.bipush 127, 2) := by decide +kernel
theorem zd_M_pack_131 : decode zc_M_pack 131 = .ok (.if_icmp .le 11, 3) := by decide +kernel
theorem zd_M_pack_134 : decode zc_M_pack 134 = .ok (.aload_n 0, 1) := by decide +kernel
theorem zd_M_pack_135 : decode zc_M_pack 135 = .ok (.iload_n 2, 1) := by decide +kernel
theorem zd_M_pack_136 : decode zc_M_pack 136 = .ok (.bipush 7, 2) := by decide +kernel
theorem zd_M_pack_138 : decode zc_M_pack 138 = .ok (.ishr, 1) := by decide +kernel
theorem zd_M_pack_139 : decode zc_M_pack 139 = .ok (.invokevirtual 63, 3) := by decide +kernel
theorem zd_M_pack_142 : decode zc_M_pack 142 = .ok (.aload_n 0, 1) := by decide +kernel
theorem zd_M_pack_143 : decode zc_M_pack 143 = .ok (.iload_n 1, 1) := by decide +kernel
theorem zd_M_pack_144 : decode zc_M_pack 144 = .ok (.invokevirtual 103, 3) := by decide +kernel
theorem zd_M_pack_147 : decode zc_M_pack 147 = .ok (.aload_n 0, 1) := by decide +kernel
theorem zd_M_pack_148 : decode zc_M_pack 148 = .ok (.getfield 13, 3) := by decide +kernel
theorem zd_M_pack_151 : decode zc_M_pack 151 = .ok (.iconst 1, 1) := by decide +kernel
theorem zd_M_pack_152 : decode zc_M_pack 152 = .ok (.aload_n 0, 1) := by decide +kernel
theorem zd_M_pack_153 : decode zc_M_pack 153 = .ok (.getfield 60, 3) := by decide +kernel
theorem zd_M_pack_156 : decode zc_M_pack 156 = .ok (.iastore, 1) := by decide +kernel
theorem zd_M_pack_157 : decode zc_M_pack 157 = .ok (.aload_n 0, 1) := by decide +kernel
theorem zd_M_pack_158 : decode zc_M_pack 158 = .ok (.getfield 60, 3) := by decide +kernel
theorem zd_M_pack_161 : decode zc_M_pack 161 = .ok (.ireturn, 1) := by decide +kernel
theorem zd_M_need_0 : decode zc_M_need 0 = .ok (.aload_n 0, 1) := by decide +kernel
theorem zd_M_need_1 : decode zc_M_need 1 = .ok (.getfield 106, 3) := by decide +kernel
theorem zd_M_need_4 : decode zc_M_need 4 = .ok (.ifCond .ge 12, 3) := by decide +kernel
theorem zd_M_need_7 : decode zc_M_need 7 = .ok (.iload_n 1, 1) := by decide +kernel
theorem zd_M_need_8 : decode zc_M_need 8 = .ok (.ifCond .ne 8, 3) := by decide +kernel
theorem zd_M_need_11 : decode zc_M_need 11 = .ok (.aload_n 0, 1) := by decide +kernel
theorem zd_M_need_12 : decode zc_M_need 12 = .ok (.iload_n 2, 1) := by decide +kernel
theorem zd_M_need_13 : decode zc_M_need 13 = .ok (.putfield 106, 3) := by decide +kernel
theorem zd_M_need_16 : decode zc_M_need 16 = .ok (.return_, 1) := by decide +kernel
theorem zd_M_next_0 : decode zc_M_next 0 = .ok (.aload_n 0, 1) := by decide +kernel
theorem zd_M_next_1 : decode zc_M_next 1 = .ok (.aload_n 0, 1) := by decide +kernel
theorem zd_M_next_2 : decode zc_M_next 2 = .ok (.getfield 109, 3) := by decide +kernel
theorem zd_M_next_5 : decode zc_M_next 5 = .ok (.aload_n 0, 1) := by decide +kernel
theorem zd_M_next_6 : decode zc_M_next 6 = .ok (.getfield 13, 3) := by decide +kernel
theorem zd_M_next_9 : decode zc_M_next 9 = .ok (.iconst 1, 1) := by decide +kernel
theorem zd_M_next_10 : decode zc_M_next 10 = .ok (.iaload, 1) := by decide +kernel
theorem zd_M_next_11 : decode zc_M_next 11 = .ok (.if_icmp .ge 7, 3) := by decide +kernel
theorem zd_M_next_14 : decode zc_M_next 14 = .ok (.iconst 1, 1) := by decide +kernel
theorem zd_M_next_15 : decode zc_M_next 15 = .ok (.goto 4, 3) := by decide +kernel
theorem zd_M_next_18 : decode zc_M_next 18 = .ok (.iconst 0, 1) := by decide +kernel
theorem zd_M_next_19 : decode zc_M_next 19 = .ok (.aload_n 0, 1) := by decide +kernel
theorem zd_M_next_20 : decode zc_M_next 20 = .ok (.getfield 13, 3) := by decide +kernel
theorem zd_M_next_23 : decode zc_M_next 23 = .ok (.iconst 1, 1) := by decide +kernel
theorem zd_M_next_24 : decode zc_M_next 24 = .ok (.iaload, 1) := by decide +kernel
theorem zd_M_next_25 : decode zc_M_next 25 = .ok (.invokevirtual 112, 3) := by decide +kernel
theorem zd_M_next_28 : decode zc_M_next 28 = .ok (.aload_n 0, 1) := by decide +kernel
theorem zd_M_next_29 : decode zc_M_next 29 = .ok (.getfield 106, 3) := by decide +kernel
theorem zd_M_next_32 : decode zc_M_next 32 = .ok (.ifCond .lt 5, 3) := by decide +kernel
theorem zd_M_next_35 : decode zc_M_next 35 = .ok (.iconst 0, 1) := by decide +kernel
theorem zd_M_next_36 : decode zc_M_next 36 = .ok (.ireturn, 1) := by decide +kernel
theorem zd_M_next_37 : decode zc_M_next 37 = .ok (.aload_n 0, 1) := by decide +kernel
theorem zd_M_next_38 : decode zc_M_next 38 = .ok (.dup, 1) := by decide +kernel
theorem zd_M_next_39 : decode zc_M_next 39 = .ok (.getfield 109, 3) := by decide +kernel
theorem zd_M_next_42 : decode zc_M_next 42 = .ok (.iconst 1, 1) := by decide +kernel
theorem zd_M_next_43 : decode zc_M_next 43 = .ok (.iadd, 1) := by decide +kernel
theorem zd_M_next_44 : decode zc_M_next 44 = .ok (.putfield 109, 3) := by decide +kernel
theorem zd_M_next_47 : decode zc_M_next 47 = .ok (.aload_n 0, 1) := by decide +kernel
theorem zd_M_next_48 : decode zc_M_next 48 = .ok (.getfield 7, 3) := by decide +kernel
theorem zd_M_next_51 : decode zc_M_next 51 = .ok (.sipush 200, 3) := by decide +kernel
theorem zd_M_next_54 : decode zc_M_next 54 = .ok (.aload_n 0, 1) := by decide +kernel
theorem zd_M_next_55 : decode zc_M_next 55 = .ok (.getfield 109, 3) := by decide +kernel
theorem zd_M_next_58 : decode zc_M_next 58 = .ok (.iadd, 1) := by decide +kernel
theorem zd_M_next_59 : decode zc_M_next 59 = .ok (.iconst 1, 1) := by decide +kernel
theorem zd_M_next_60 : decode zc_M_next 60 = .ok (.isub, 1) := by decide +kernel
theorem zd_M_next_61 : decode zc_M_next 61 = .ok (.iaload, 1) := by decide +kernel
theorem zd_M_next_62 : decode zc_M_next 62 = .ok (.ireturn, 1) := by decide +kernel
theorem zd_M_made_0 : decode zc_M_made 0 = .ok (.aload_n 0, 1) := by decide +kernel
theorem zd_M_made_1 : decode zc_M_made 1 = .ok (.getfield 57, 3) := by decide +kernel
theorem zd_M_made_4 : decode zc_M_made 4 = .ok (.aload_n 0, 1) := by decide +kernel
theorem zd_M_made_5 : decode zc_M_made 5 = .ok (.getfield 54, 3) := by decide +kernel
