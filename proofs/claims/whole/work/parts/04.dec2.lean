theorem zd_R_room_10 : decode zc_R_room 10 = .ok (.ireturn, 1) := by decide +kernel
theorem zd_R_add_0 : decode zc_R_add 0 = .ok (.aload_n 0, 1) := by decide +kernel
theorem zd_R_add_1 : decode zc_R_add 1 = .ok (.getfield 13, 3) := by decide +kernel
theorem zd_R_add_4 : decode zc_R_add 4 = .ok (.ifCond .lt 36, 3) := by decide +kernel
theorem zd_R_add_7 : decode zc_R_add 7 = .ok (.aload_n 0, 1) := by decide +kernel
theorem zd_R_add_8 : decode zc_R_add 8 = .ok (.getfield 13, 3) := by decide +kernel
theorem zd_R_add_11 : decode zc_R_add 11 = .ok (.aload_n 0, 1) := by decide +kernel
theorem zd_R_add_12 : decode zc_R_add 12 = .ok (.getfield 7, 3) := by decide +kernel
theorem zd_R_add_15 : decode zc_R_add 15 = .ok (.arraylength, 1) := by decide +kernel
theorem zd_R_add_16 : decode zc_R_add 16 = .ok (.if_icmp .ge 24, 3) := by decide +kernel
theorem zd_R_add_19 : decode zc_R_add 19 = .ok (.aload_n 0, 1) := by decide +kernel
theorem zd_R_add_20 : decode zc_R_add 20 = .ok (.getfield 7, 3) := by decide +kernel
theorem zd_R_add_23 : decode zc_R_add 23 = .ok (.aload_n 0, 1) := by decide +kernel
theorem zd_R_add_24 : decode zc_R_add 24 = .ok (.getfield 13, 3) := by decide +kernel
theorem zd_R_add_27 : decode zc_R_add 27 = .ok (.iload_n 1, 1) := by decide +kernel
theorem zd_R_add_28 : decode zc_R_add 28 = .ok (.i2b, 1) := by decide +kernel
theorem zd_R_add_29 : decode zc_R_add 29 = .ok (.bastore, 1) := by decide +kernel
theorem zd_R_add_30 : decode zc_R_add 30 = .ok (.aload_n 0, 1) := by decide +kernel
theorem zd_R_add_31 : decode zc_R_add 31 = .ok (.dup, 1) := by decide +kernel
theorem zd_R_add_32 : decode zc_R_add 32 = .ok (.getfield 13, 3) := by decide +kernel
theorem zd_R_add_35 : decode zc_R_add 35 = .ok (.iconst 1, 1) := by decide +kernel
theorem zd_R_add_36 : decode zc_R_add 36 = .ok (.iadd, 1) := by decide +kernel
theorem zd_R_add_37 : decode zc_R_add 37 = .ok (.putfield 13, 3) := by decide +kernel
theorem zd_R_add_40 : decode zc_R_add 40 = .ok (.return_, 1) := by decide +kernel
theorem zd_R_clear_0 : decode zc_R_clear 0 = .ok (.aload_n 0, 1) := by decide +kernel
theorem zd_R_clear_1 : decode zc_R_clear 1 = .ok (.iconst 0, 1) := by decide +kernel
theorem zd_R_clear_2 : decode zc_R_clear 2 = .ok (.putfield 13, 3) := by decide +kernel
theorem zd_R_clear_5 : decode zc_R_clear 5 = .ok (.return_, 1) := by decide +kernel
theorem zd_R_byteAt_0 : decode zc_R_byteAt 0 = .ok (.iload_n 1, 1) := by decide +kernel
theorem zd_R_byteAt_1 : decode zc_R_byteAt 1 = .ok (.ifCond .lt 33, 3) := by decide +kernel
theorem zd_R_byteAt_4 : decode zc_R_byteAt 4 = .ok (.iload_n 1, 1) := by decide +kernel
theorem zd_R_byteAt_5 : decode zc_R_byteAt 5 = .ok (.aload_n 0, 1) := by decide +kernel
theorem zd_R_byteAt_6 : decode zc_R_byteAt 6 = .ok (.getfield 13, 3) := by decide +kernel
theorem zd_R_byteAt_9 : decode zc_R_byteAt 9 = .ok (.if_icmp .ge 25, 3) := by decide +kernel
theorem zd_R_byteAt_12 : decode zc_R_byteAt 12 = .ok (.iload_n 1, 1) := by decide +kernel
theorem zd_R_byteAt_13 : decode zc_R_byteAt 13 = .ok (.aload_n 0, 1) := by decide +kernel
theorem zd_R_byteAt_14 : decode zc_R_byteAt 14 = .ok (.getfield 7, 3) := by decide +kernel
theorem zd_R_byteAt_17 : decode zc_R_byteAt 17 = .ok (.arraylength, 1) := by decide +kernel
theorem zd_R_byteAt_18 : decode zc_R_byteAt 18 = .ok (.if_icmp .ge 16, 3) := by decide +kernel
theorem zd_R_byteAt_21 : decode zc_R_byteAt 21 = .ok (.aload_n 0, 1) := by decide +kernel
theorem zd_R_byteAt_22 : decode zc_R_byteAt 22 = .ok (.getfield 7, 3) := by decide +kernel
theorem zd_R_byteAt_25 : decode zc_R_byteAt 25 = .ok (.iload_n 1, 1) := by decide +kernel
theorem zd_R_byteAt_26 : decode zc_R_byteAt 26 = .ok (.baload, 1) := by decide +kernel
theorem zd_R_byteAt_27 : decode zc_R_byteAt 27 = .ok (.sipush 255, 3) := by decide +kernel
theorem zd_R_byteAt_30 : decode zc_R_byteAt 30 = .ok (.iand, 1) := by decide +kernel
theorem zd_R_byteAt_31 : decode zc_R_byteAt 31 = .ok (.goto 4, 3) := by decide +kernel
theorem zd_R_byteAt_34 : decode zc_R_byteAt 34 = .ok (.iconst 0, 1) := by decide +kernel
theorem zd_R_byteAt_35 : decode zc_R_byteAt 35 = .ok (.ireturn, 1) := by decide +kernel
theorem zd_R_intAt_0 : decode zc_R_intAt 0 = .ok (.aload_n 0, 1) := by decide +kernel
theorem zd_R_intAt_1 : decode zc_R_intAt 1 = .ok (.iload_n 1, 1) := by decide +kernel
theorem zd_R_intAt_2 : decode zc_R_intAt 2 = .ok (.invokevirtual 17, 3) := by decide +kernel
theorem zd_R_intAt_5 : decode zc_R_intAt 5 = .ok (.aload_n 0, 1) := by decide +kernel
theorem zd_R_intAt_6 : decode zc_R_intAt 6 = .ok (.iload_n 1, 1) := by decide +kernel
theorem zd_R_intAt_7 : decode zc_R_intAt 7 = .ok (.iconst 1, 1) := by decide +kernel
theorem zd_R_intAt_8 : decode zc_R_intAt 8 = .ok (.iadd, 1) := by decide +kernel
theorem zd_R_intAt_9 : decode zc_R_intAt 9 = .ok (.invokevirtual 17, 3) := by decide +kernel
theorem zd_R_intAt_12 : decode zc_R_intAt 12 = .ok (.bipush 8, 2) := by decide +kernel
theorem zd_R_intAt_14 : decode zc_R_intAt 14 = .ok (.ishl, 1) := by decide +kernel
theorem zd_R_intAt_15 : decode zc_R_intAt 15 = .ok (.ior, 1) := by decide +kernel
theorem zd_R_intAt_16 : decode zc_R_intAt 16 = .ok (.aload_n 0, 1) := by decide +kernel
theorem zd_R_intAt_17 : decode zc_R_intAt 17 = .ok (.iload_n 1, 1) := by decide +kernel
theorem zd_R_intAt_18 : decode zc_R_intAt 18 = .ok (.iconst 2, 1) := by decide +kernel
theorem zd_R_intAt_19 : decode zc_R_intAt 19 = .ok (.iadd, 1) := by decide +kernel
theorem zd_R_intAt_20 : decode zc_R_intAt 20 = .ok (.invokevirtual 17, 3) := by decide +kernel
theorem zd_R_intAt_23 : decode zc_R_intAt 23 = .ok (.bipush 16, 2) := by decide +kernel
theorem zd_R_intAt_25 : decode zc_R_intAt 25 = .ok (.ishl, 1) := by decide +kernel
theorem zd_R_intAt_26 : decode zc_R_intAt 26 = .ok (.ior, 1) := by decide +kernel
theorem zd_R_intAt_27 : decode zc_R_intAt 27 = .ok (.aload_n 0, 1) := by decide +kernel
theorem zd_R_intAt_28 : decode zc_R_intAt 28 = .ok (.iload_n 1, 1) := by decide +kernel
theorem zd_R_intAt_29 : decode zc_R_intAt 29 = .ok (.iconst 3, 1) := by decide +kernel
theorem zd_R_intAt_30 : decode zc_R_intAt 30 = .ok (.iadd, 1) := by decide +kernel
theorem zd_R_intAt_31 : decode zc_R_intAt 31 = .ok (.invokevirtual 17, 3) := by decide +kernel
theorem zd_R_intAt_34 : decode zc_R_intAt 34 = .ok (.bipush 24, 2) := by decide +kernel
theorem zd_R_intAt_36 : decode zc_R_intAt 36 = .ok (.ishl, 1) := by decide +kernel
theorem zd_R_intAt_37 : decode zc_R_intAt 37 = .ok (.ior, 1) := by decide +kernel
theorem zd_R_intAt_38 : decode zc_R_intAt 38 = .ok (.ireturn, 1) := by decide +kernel
theorem zd_R_become_0 : decode zc_R_become 0 = .ok (.aload_n 0, 1) := by decide +kernel
theorem zd_R_become_1 : decode zc_R_become 1 = .ok (.invokevirtual 21, 3) := by decide +kernel
theorem zd_R_become_4 : decode zc_R_become 4 = .ok (.iconst 0, 1) := by decide +kernel
theorem zd_R_become_5 : decode zc_R_become 5 = .ok (.istore_n 2, 1) := by decide +kernel
theorem zd_R_become_6 : decode zc_R_become 6 = .ok (.iload_n 2, 1) := by decide +kernel
theorem zd_R_become_7 : decode zc_R_become 7 = .ok (.aload_n 1, 1) := by decide +kernel
theorem zd_R_become_8 : decode zc_R_become 8 = .ok (.getfield 13, 3) := by decide +kernel
theorem zd_R_become_11 : decode zc_R_become 11 = .ok (.if_icmp .ge 18, 3) := by decide +kernel
theorem zd_R_become_14 : decode zc_R_become 14 = .ok (.aload_n 0, 1) := by decide +kernel
theorem zd_R_become_15 : decode zc_R_become 15 = .ok (.aload_n 1, 1) := by decide +kernel
theorem zd_R_become_16 : decode zc_R_become 16 = .ok (.iload_n 2, 1) := by decide +kernel
theorem zd_R_become_17 : decode zc_R_become 17 = .ok (.invokevirtual 17, 3) := by decide +kernel
theorem zd_R_become_20 : decode zc_R_become 20 = .ok (.invokevirtual 24, 3) := by decide +kernel
theorem zd_R_become_23 : decode zc_R_become 23 = .ok (.iinc 2 1, 3) := by decide +kernel
theorem zd_R_become_26 : decode zc_R_become 26 = .ok (.goto (-20), 3) := by decide +kernel
theorem zd_R_become_29 : decode zc_R_become 29 = .ok (.return_, 1) := by decide +kernel
theorem zd_SR_readAll_0 : decode zc_SR_readAll 0 = .ok (.iconst 1, 1) := by decide +kernel
theorem zd_SR_readAll_1 : decode zc_SR_readAll 1 = .ok (.istore_n 1, 1) := by decide +kernel
theorem zd_SR_readAll_2 : decode zc_SR_readAll 2 = .ok (.iconst 0, 1) := by decide +kernel
theorem zd_SR_readAll_3 : decode zc_SR_readAll 3 = .ok (.istore_n 2, 1) := by decide +kernel
theorem zd_SR_readAll_4 : decode zc_SR_readAll 4 = .ok (.iload_n 2, 1) := by decide +kernel
theorem zd_SR_readAll_5 : decode zc_SR_readAll 5 = .ok (.aload_n 0, 1) := by decide +kernel
theorem zd_SR_readAll_6 : decode zc_SR_readAll 6 = .ok (.getfield 9, 3) := by decide +kernel
theorem zd_SR_readAll_9 : decode zc_SR_readAll 9 = .ok (.getfield 15, 3) := by decide +kernel
theorem zd_SR_readAll_12 : decode zc_SR_readAll 12 = .ok (.if_icmp .gt 18, 3) := by decide +kernel
theorem zd_SR_readAll_15 : decode zc_SR_readAll 15 = .ok (.iload_n 1, 1) := by decide +kernel
theorem zd_SR_readAll_16 : decode zc_SR_readAll 16 = .ok (.ifCond .eq 14, 3) := by decide +kernel
theorem zd_SR_readAll_19 : decode zc_SR_readAll 19 = .ok (.aload_n 0, 1) := by decide +kernel
theorem zd_SR_readAll_20 : decode zc_SR_readAll 20 = .ok (.invokevirtual 21, 3) := by decide +kernel
theorem zd_SR_readAll_23 : decode zc_SR_readAll 23 = .ok (.istore_n 1, 1) := by decide +kernel
theorem zd_SR_readAll_24 : decode zc_SR_readAll 24 = .ok (.iinc 2 1, 3) := by decide +kernel
theorem zd_SR_readAll_27 : decode zc_SR_readAll 27 = .ok (.goto (-23), 3) := by decide +kernel
theorem zd_SR_readAll_30 : decode zc_SR_readAll 30 = .ok (.return_, 1) := by decide +kernel
theorem zd_SR_readSequence_0 : decode zc_SR_readSequence 0 = .ok (.aload_n 0, 1) := by decide +kernel
theorem zd_SR_readSequence_1 : decode zc_SR_readSequence 1 = .ok (.getfield 25, 3) := by decide +kernel
theorem zd_SR_readSequence_4 : decode zc_SR_readSequence 4 = .ok (.istore_n 1, 1) := by decide +kernel
theorem zd_SR_readSequence_5 : decode zc_SR_readSequence 5 = .ok (.aload_n 0, 1) := by decide +kernel
theorem zd_SR_readSequence_6 : decode zc_SR_readSequence 6 = .ok (.invokevirtual 28, 3) := by decide +kernel
theorem zd_SR_readSequence_9 : decode zc_SR_readSequence 9 = .ok (.istore_n 2, 1) := by decide +kernel
theorem zd_SR_readSequence_10 : decode zc_SR_readSequence 10 = .ok (.aload_n 0, 1) := by decide +kernel
theorem zd_SR_readSequence_11 : decode zc_SR_readSequence 11 = .ok (.iload_n 2, 1) := by decide +kernel
theorem zd_SR_readSequence_12 : decode zc_SR_readSequence 12 = .ok (.iconst 4, 1) := by decide +kernel
theorem zd_SR_readSequence_13 : decode zc_SR_readSequence 13 = .ok (.ishr, 1) := by decide +kernel
theorem zd_SR_readSequence_14 : decode zc_SR_readSequence 14 = .ok (.invokevirtual 32, 3) := by decide +kernel
theorem zd_SR_readSequence_17 : decode zc_SR_readSequence 17 = .ok (.istore_n 3, 1) := by decide +kernel
theorem zd_SR_readSequence_18 : decode zc_SR_readSequence 18 = .ok (.aload_n 0, 1) := by decide +kernel
theorem zd_SR_readSequence_19 : decode zc_SR_readSequence 19 = .ok (.iload_n 3, 1) := by decide +kernel
theorem zd_SR_readSequence_20 : decode zc_SR_readSequence 20 = .ok (.sipush 160, 3) := by decide +kernel
theorem zd_SR_readSequence_23 : decode zc_SR_readSequence 23 = .ok (.iload_n 1, 1) := by decide +kernel
theorem zd_SR_readSequence_24 : decode zc_SR_readSequence 24 = .ok (.invokevirtual 36, 3) := by decide +kernel
theorem zd_SR_readSequence_27 : decode zc_SR_readSequence 27 = .ok (.aload_n 0, 1) := by decide +kernel
theorem zd_SR_readSequence_28 : decode zc_SR_readSequence 28 = .ok (.iload_n 3, 1) := by decide +kernel
theorem zd_SR_readSequence_29 : decode zc_SR_readSequence 29 = .ok (.invokevirtual 40, 3) := by decide +kernel
theorem zd_SR_readSequence_32 : decode zc_SR_readSequence 32 = .ok (.aload_n 0, 1) := by decide +kernel
theorem zd_SR_readSequence_33 : decode zc_SR_readSequence 33 = .ok (.invokevirtual 44, 3) := by decide +kernel
theorem zd_SR_readSequence_36 : decode zc_SR_readSequence 36 = .ok (.ifCond .ne 10, 3) := by decide +kernel
theorem zd_SR_readSequence_39 : decode zc_SR_readSequence 39 = .ok (.aload_n 0, 1) := by decide +kernel
theorem zd_SR_readSequence_40 : decode zc_SR_readSequence 40 = .ok (.invokevirtual 47, 3) := by decide +kernel
theorem zd_SR_readSequence_43 : decode zc_SR_readSequence 43 = .ok (.ifCond .eq 5, 3) := by decide +kernel
theorem zd_SR_readSequence_46 : decode zc_SR_readSequence 46 = .ok (.iconst 0, 1) := by decide +kernel
theorem zd_SR_readSequence_47 : decode zc_SR_readSequence 47 = .ok (.ireturn, 1) := by decide +kernel
theorem zd_SR_readSequence_48 : decode zc_SR_readSequence 48 = .ok (.aload_n 0, 1) := by decide +kernel
theorem zd_SR_readSequence_49 : decode zc_SR_readSequence 49 = .ok (.getfield 25, 3) := by decide +kernel
theorem zd_SR_readSequence_52 : decode zc_SR_readSequence 52 = .ok (.istore 4, 2) := by decide +kernel
theorem zd_SR_readSequence_54 : decode zc_SR_readSequence 54 = .ok (.aload_n 0, 1) := by decide +kernel
theorem zd_SR_readSequence_55 : decode zc_SR_readSequence 55 = .ok (.invokevirtual 50, 3) := by decide +kernel
theorem zd_SR_readSequence_58 : decode zc_SR_readSequence 58 = .ok (.istore 5, 2) := by decide +kernel
theorem zd_SR_readSequence_60 : decode zc_SR_readSequence 60 = .ok (.aload_n 0, 1) := by decide +kernel
theorem zd_SR_readSequence_61 : decode zc_SR_readSequence 61 = .ok (.iload 5, 2) := by decide +kernel
theorem zd_SR_readSequence_63 : decode zc_SR_readSequence 63 = .ok (.iload 4, 2) := by decide +kernel
theorem zd_SR_readSequence_65 : decode zc_SR_readSequence 65 = .ok (.invokevirtual 53, 3) := by decide +kernel
theorem zd_SR_readSequence_68 : decode zc_SR_readSequence 68 = .ok (.aload_n 0, 1) := by decide +kernel
theorem zd_SR_readSequence_69 : decode zc_SR_readSequence 69 = .ok (.iload_n 2, 1) := by decide +kernel
theorem zd_SR_readSequence_70 : decode zc_SR_readSequence 70 = .ok (.bipush 15, 2) := by decide +kernel
theorem zd_SR_readSequence_72 : decode zc_SR_readSequence 72 = .ok (.iand, 1) := by decide +kernel
theorem zd_SR_readSequence_73 : decode zc_SR_readSequence 73 = .ok (.invokevirtual 32, 3) := by decide +kernel
theorem zd_SR_readSequence_76 : decode zc_SR_readSequence 76 = .ok (.iconst 4, 1) := by decide +kernel
theorem zd_SR_readSequence_77 : decode zc_SR_readSequence 77 = .ok (.iadd, 1) := by decide +kernel
theorem zd_SR_readSequence_78 : decode zc_SR_readSequence 78 = .ok (.istore 6, 2) := by decide +kernel
theorem zd_SR_readSequence_80 : decode zc_SR_readSequence 80 = .ok (.aload_n 0, 1) := by decide +kernel
theorem zd_SR_readSequence_81 : decode zc_SR_readSequence 81 = .ok (.iload 6, 2) := by decide +kernel
theorem zd_SR_readSequence_83 : decode zc_SR_readSequence 83 = .ok (.sipush 160, 3) := by decide +kernel
theorem zd_SR_readSequence_86 : decode zc_SR_readSequence 86 = .ok (.iload_n 1, 1) := by decide +kernel
theorem zd_SR_readSequence_87 : decode zc_SR_readSequence 87 = .ok (.invokevirtual 36, 3) := by decide +kernel
theorem zd_SR_readSequence_90 : decode zc_SR_readSequence 90 = .ok (.aload_n 0, 1) := by decide +kernel
theorem zd_SR_readSequence_91 : decode zc_SR_readSequence 91 = .ok (.iload 5, 2) := by decide +kernel
theorem zd_SR_readSequence_93 : decode zc_SR_readSequence 93 = .ok (.iload 6, 2) := by decide +kernel
theorem zd_SR_readSequence_95 : decode zc_SR_readSequence 95 = .ok (.invokevirtual 57, 3) := by decide +kernel
theorem zd_SR_readSequence_98 : decode zc_SR_readSequence 98 = .ok (.aload_n 0, 1) := by decide +kernel
theorem zd_SR_readSequence_99 : decode zc_SR_readSequence 99 = .ok (.invokevirtual 44, 3) := by decide +kernel
theorem zd_SR_readSequence_102 : decode zc_SR_readSequence 102 = .ok (.ifCond .ne 7, 3) := by decide +kernel
theorem zd_SR_readSequence_105 : decode zc_SR_readSequence 105 = .ok (.iconst 1, 1) := by decide +kernel
theorem zd_SR_readSequence_106 : decode zc_SR_readSequence 106 = .ok (.goto 4, 3) := by decide +kernel
theorem zd_SR_readSequence_109 : decode zc_SR_readSequence 109 = .ok (.iconst 0, 1) := by decide +kernel
theorem zd_SR_readSequence_110 : decode zc_SR_readSequence 110 = .ok (.ireturn, 1) := by decide +kernel
theorem zd_SR_takeSum_0 : decode zc_SR_takeSum 0 = .ok (.iload_n 1, 1) := by decide +kernel
theorem zd_SR_takeSum_1 : decode zc_SR_takeSum 1 = .ok (.istore_n 2, 1) := by decide +kernel
theorem zd_SR_takeSum_2 : decode zc_SR_takeSum 2 = .ok (.iload_n 1, 1) := by decide +kernel
theorem zd_SR_takeSum_3 : decode zc_SR_takeSum 3 = .ok (.bipush 15, 2) := by decide +kernel
theorem zd_SR_takeSum_5 : decode zc_SR_takeSum 5 = .ok (.if_icmp .ne 9, 3) := by decide +kernel
theorem zd_SR_takeSum_8 : decode zc_SR_takeSum 8 = .ok (.sipush 255, 3) := by decide +kernel
theorem zd_SR_takeSum_11 : decode zc_SR_takeSum 11 = .ok (.goto 4, 3) := by decide +kernel
theorem zd_SR_takeSum_14 : decode zc_SR_takeSum 14 = .ok (.iconst 0, 1) := by decide +kernel
theorem zd_SR_takeSum_15 : decode zc_SR_takeSum 15 = .ok (.istore_n 3, 1) := by decide +kernel
theorem zd_SR_takeSum_16 : decode zc_SR_takeSum 16 = .ok (.iconst 0, 1) := by decide +kernel
theorem zd_SR_takeSum_17 : decode zc_SR_takeSum 17 = .ok (.istore 4, 2) := by decide +kernel
theorem zd_SR_takeSum_19 : decode zc_SR_takeSum 19 = .ok (.iload 4, 2) := by decide +kernel
theorem zd_SR_takeSum_21 : decode zc_SR_takeSum 21 = .ok (.aload_n 0, 1) := by decide +kernel
theorem zd_SR_takeSum_22 : decode zc_SR_takeSum 22 = .ok (.getfield 9, 3) := by decide +kernel
theorem zd_SR_takeSum_25 : decode zc_SR_takeSum 25 = .ok (.getfield 15, 3) := by decide +kernel
theorem zd_SR_takeSum_28 : decode zc_SR_takeSum 28 = .ok (.if_icmp .gt 25, 3) := by decide +kernel
theorem zd_SR_takeSum_31 : decode zc_SR_takeSum 31 = .ok (.iload_n 3, 1) := by decide +kernel
theorem zd_SR_takeSum_32 : decode zc_SR_takeSum 32 = .ok (.sipush 255, 3) := by decide +kernel
theorem zd_SR_takeSum_35 : decode zc_SR_takeSum 35 = .ok (.if_icmp .ne 18, 3) := by decide +kernel
theorem zd_SR_takeSum_38 : decode zc_SR_takeSum 38 = .ok (.aload_n 0, 1) := by decide +kernel
theorem zd_SR_takeSum_39 : decode zc_SR_takeSum 39 = .ok (.invokevirtual 28, 3) := by decide +kernel
theorem zd_SR_takeSum_42 : decode zc_SR_takeSum 42 = .ok (.istore_n 3, 1) := by decide +kernel
theorem zd_SR_takeSum_43 : decode zc_SR_takeSum 43 = .ok (.iload_n 2, 1) := by decide +kernel
theorem zd_SR_takeSum_44 : decode zc_SR_takeSum 44 = .ok (.iload_n 3, 1) := by decide +kernel
theorem zd_SR_takeSum_45 : decode zc_SR_takeSum 45 = .ok (.iadd, 1) := by decide +kernel
theorem zd_SR_takeSum_46 : decode zc_SR_takeSum 46 = .ok (.istore_n 2, 1) := by decide +kernel
theorem zd_SR_takeSum_47 : decode zc_SR_takeSum 47 = .ok (.iinc 4 1, 3) := by decide +kernel
theorem zd_SR_takeSum_50 : decode zc_SR_takeSum 50 = .ok (.goto (-31), 3) := by decide +kernel
theorem zd_SR_takeSum_53 : decode zc_SR_takeSum 53 = .ok (.iload_n 2, 1) := by decide +kernel
theorem zd_SR_takeSum_54 : decode zc_SR_takeSum 54 = .ok (.ireturn, 1) := by decide +kernel
theorem zd_SW_begin_0 : decode zc_SW_begin 0 = .ok (.aload_n 0, 1) := by decide +kernel
theorem zd_SW_begin_1 : decode zc_SW_begin 1 = .ok (.getfield 7, 3) := by decide +kernel
theorem zd_SW_begin_4 : decode zc_SW_begin 4 = .ok (.invokevirtual 13, 3) := by decide +kernel
theorem zd_SW_begin_7 : decode zc_SW_begin 7 = .ok (.return_, 1) := by decide +kernel
theorem zd_SW_match_0 : decode zc_SW_match 0 = .ok (.iload 4, 2) := by decide +kernel
theorem zd_SW_match_2 : decode zc_SW_match 2 = .ok (.iconst 4, 1) := by decide +kernel
theorem zd_SW_match_3 : decode zc_SW_match 3 = .ok (.isub, 1) := by decide +kernel
theorem zd_SW_match_4 : decode zc_SW_match 4 = .ok (.istore 5, 2) := by decide +kernel
theorem zd_SW_match_6 : decode zc_SW_match 6 = .ok (.aload_n 0, 1) := by decide +kernel
theorem zd_SW_match_7 : decode zc_SW_match 7 = .ok (.iload_n 1, 1) := by decide +kernel
theorem zd_SW_match_8 : decode zc_SW_match 8 = .ok (.iload_n 2, 1) := by decide +kernel
theorem zd_SW_match_9 : decode zc_SW_match 9 = .ok (.iload 5, 2) := by decide +kernel
theorem zd_SW_match_11 : decode zc_SW_match 11 = .ok (.bipush 15, 2) := by decide +kernel
theorem zd_SW_match_13 : decode zc_SW_match 13 = .ok (.invokestatic 19, 3) := by decide +kernel
theorem zd_SW_match_16 : decode zc_SW_match 16 = .ok (.invokevirtual 25, 3) := by decide +kernel
theorem zd_SW_match_19 : decode zc_SW_match 19 = .ok (.aload_n 0, 1) := by decide +kernel
theorem zd_SW_match_20 : decode zc_SW_match 20 = .ok (.getfield 7, 3) := by decide +kernel
theorem zd_SW_match_23 : decode zc_SW_match 23 = .ok (.iload_n 3, 1) := by decide +kernel
theorem zd_SW_match_24 : decode zc_SW_match 24 = .ok (.invokevirtual 29, 3) := by decide +kernel
theorem zd_SW_match_27 : decode zc_SW_match 27 = .ok (.aload_n 0, 1) := by decide +kernel
theorem zd_SW_match_28 : decode zc_SW_match 28 = .ok (.getfield 7, 3) := by decide +kernel
theorem zd_SW_match_31 : decode zc_SW_match 31 = .ok (.iload_n 3, 1) := by decide +kernel
theorem zd_SW_match_32 : decode zc_SW_match 32 = .ok (.bipush 8, 2) := by decide +kernel
theorem zd_SW_match_34 : decode zc_SW_match 34 = .ok (.ishr, 1) := by decide +kernel
theorem zd_SW_match_35 : decode zc_SW_match 35 = .ok (.invokevirtual 29, 3) := by decide +kernel
theorem zd_SW_match_38 : decode zc_SW_match 38 = .ok (.aload_n 0, 1) := by decide +kernel
theorem zd_SW_match_39 : decode zc_SW_match 39 = .ok (.iload 5, 2) := by decide +kernel
theorem zd_SW_match_41 : decode zc_SW_match 41 = .ok (.invokevirtual 33, 3) := by decide +kernel
theorem zd_SW_match_44 : decode zc_SW_match 44 = .ok (.return_, 1) := by decide +kernel
theorem zd_SW_end_0 : decode zc_SW_end 0 = .ok (.aload_n 0, 1) := by decide +kernel
theorem zd_SW_end_1 : decode zc_SW_end 1 = .ok (.iload_n 1, 1) := by decide +kernel
theorem zd_SW_end_2 : decode zc_SW_end 2 = .ok (.aload_n 0, 1) := by decide +kernel
theorem zd_SW_end_3 : decode zc_SW_end 3 = .ok (.getfield 36, 3) := by decide +kernel
theorem zd_SW_end_6 : decode zc_SW_end 6 = .ok (.getfield 39, 3) := by decide +kernel
theorem zd_SW_end_9 : decode zc_SW_end 9 = .ok (.iconst 0, 1) := by decide +kernel
theorem zd_SW_end_10 : decode zc_SW_end 10 = .ok (.invokevirtual 25, 3) := by decide +kernel
theorem zd_SW_end_13 : decode zc_SW_end 13 = .ok (.return_, 1) := by decide +kernel
theorem zd_SW_writeLiterals_0 : decode zc_SW_writeLiterals 0 = .ok (.iload_n 2, 1) := by decide +kernel
theorem zd_SW_writeLiterals_1 : decode zc_SW_writeLiterals 1 = .ok (.iload_n 1, 1) := by decide +kernel
theorem zd_SW_writeLiterals_2 : decode zc_SW_writeLiterals 2 = .ok (.isub, 1) := by decide +kernel
theorem zd_SW_writeLiterals_3 : decode zc_SW_writeLiterals 3 = .ok (.istore 4, 2) := by decide +kernel
theorem zd_SW_writeLiterals_5 : decode zc_SW_writeLiterals 5 = .ok (.aload_n 0, 1) := by decide +kernel
theorem zd_SW_writeLiterals_6 : decode zc_SW_writeLiterals 6 = .ok (.getfield 7, 3) := by decide +kernel
theorem zd_SW_writeLiterals_9 : decode zc_SW_writeLiterals 9 = .ok (.iload 4, 2) := by decide +kernel
theorem zd_SW_writeLiterals_11 : decode zc_SW_writeLiterals 11 = .ok (.bipush 15, 2) := by decide +kernel
theorem zd_SW_writeLiterals_13 : decode zc_SW_writeLiterals 13 = .ok (.invokestatic 19, 3) := by decide +kernel
theorem zd_SW_writeLiterals_16 : decode zc_SW_writeLiterals 16 = .ok (.iconst 4, 1) := by decide +kernel
theorem zd_SW_writeLiterals_17 : decode zc_SW_writeLiterals 17 = .ok (.ishl, 1) := by decide +kernel
theorem zd_SW_writeLiterals_18 : decode zc_SW_writeLiterals 18 = .ok (.iload_n 3, 1) := by decide +kernel
theorem zd_SW_writeLiterals_19 : decode zc_SW_writeLiterals 19 = .ok (.ior, 1) := by decide +kernel
theorem zd_SW_writeLiterals_20 : decode zc_SW_writeLiterals 20 = .ok (.invokevirtual 29, 3) := by decide +kernel
theorem zd_SW_writeLiterals_23 : decode zc_SW_writeLiterals 23 = .ok (.aload_n 0, 1) := by decide +kernel
theorem zd_SW_writeLiterals_24 : decode zc_SW_writeLiterals 24 = .ok (.iload 4, 2) := by decide +kernel
theorem zd_SW_writeLiterals_26 : decode zc_SW_writeLiterals 26 = .ok (.invokevirtual 33, 3) := by decide +kernel
theorem zd_SW_writeLiterals_29 : decode zc_SW_writeLiterals 29 = .ok (.aload_n 0, 1) := by decide +kernel
theorem zd_SW_writeLiterals_30 : decode zc_SW_writeLiterals 30 = .ok (.iload_n 1, 1) := by decide +kernel
theorem zd_SW_writeLiterals_31 : decode zc_SW_writeLiterals 31 = .ok (.iload_n 2, 1) := by decide +kernel
theorem zd_SW_writeLiterals_32 : decode zc_SW_writeLiterals 32 = .ok (.invokevirtual 43, 3) := by decide +kernel
theorem zd_SW_writeLiterals_35 : decode zc_SW_writeLiterals 35 = .ok (.return_, 1) := by decide +kernel
theorem zd_SW_writeSum_0 : decode zc_SW_writeSum 0 = .ok (.iload_n 1, 1) := by decide +kernel
theorem zd_SW_writeSum_1 : decode zc_SW_writeSum 1 = .ok (.bipush 15, 2) := by decide +kernel
theorem zd_SW_writeSum_3 : decode zc_SW_writeSum 3 = .ok (.if_icmp .ge 4, 3) := by decide +kernel
theorem zd_SW_writeSum_6 : decode zc_SW_writeSum 6 = .ok (.return_, 1) := by decide +kernel
theorem zd_SW_writeSum_7 : decode zc_SW_writeSum 7 = .ok (.iload_n 1, 1) := by decide +kernel
theorem zd_SW_writeSum_8 : decode zc_SW_writeSum 8 = .ok (.bipush 15, 2) := by decide +kernel
theorem zd_SW_writeSum_10 : decode zc_SW_writeSum 10 = .ok (.isub, 1) := by decide +kernel
theorem zd_SW_writeSum_11 : decode zc_SW_writeSum 11 = .ok (.istore_n 2, 1) := by decide +kernel
theorem zd_SW_writeSum_12 : decode zc_SW_writeSum 12 = .ok (.iload_n 2, 1) := by decide +kernel
theorem zd_SW_writeSum_13 : decode zc_SW_writeSum 13 = .ok (.sipush 255, 3) := by decide +kernel
theorem zd_SW_writeSum_16 : decode zc_SW_writeSum 16 = .ok (.if_icmp .lt 22, 3) := by decide +kernel
theorem zd_SW_writeSum_19 : decode zc_SW_writeSum 19 = .ok (.aload_n 0, 1) := by decide +kernel
theorem zd_SW_writeSum_20 : decode zc_SW_writeSum 20 = .ok (.getfield 7, 3) := by decide +kernel
theorem zd_SW_writeSum_23 : decode zc_SW_writeSum 23 = .ok (.sipush 255, 3) := by decide +kernel
theorem zd_SW_writeSum_26 : decode zc_SW_writeSum 26 = .ok (.invokevirtual 29, 3) := by decide +kernel
theorem zd_SW_writeSum_29 : decode zc_SW_writeSum 29 = .ok (.iinc 2 (-255), 6) := by decide +kernel
theorem zd_SW_writeSum_35 : decode zc_SW_writeSum 35 = .ok (.goto (-23), 3) := by decide +kernel
theorem zd_SW_writeSum_38 : decode zc_SW_writeSum 38 = .ok (.aload_n 0, 1) := by decide +kernel
theorem zd_SW_writeSum_39 : decode zc_SW_writeSum 39 = .ok (.getfield 7, 3) := by decide +kernel
theorem zd_SW_writeSum_42 : decode zc_SW_writeSum 42 = .ok (.iload_n 2, 1) := by decide +kernel
theorem zd_SW_writeSum_43 : decode zc_SW_writeSum 43 = .ok (.invokevirtual 29, 3) := by decide +kernel
theorem zd_SW_writeSum_46 : decode zc_SW_writeSum 46 = .ok (.return_, 1) := by decide +kernel
theorem zd_W_writePlain_0 : decode zc_W_writePlain 0 = .ok (.iload_n 1, 1) := by decide +kernel
theorem zd_W_writePlain_1 : decode zc_W_writePlain 1 = .ok (.istore_n 3, 1) := by decide +kernel
theorem zd_W_writePlain_2 : decode zc_W_writePlain 2 = .ok (.iload_n 3, 1) := by decide +kernel
theorem zd_W_writePlain_3 : decode zc_W_writePlain 3 = .ok (.iload_n 2, 1) := by decide +kernel
theorem zd_W_writePlain_4 : decode zc_W_writePlain 4 = .ok (.if_icmp .ge 24, 3) := by decide +kernel
theorem zd_W_writePlain_7 : decode zc_W_writePlain 7 = .ok (.aload_n 0, 1) := by decide +kernel
theorem zd_W_writePlain_8 : decode zc_W_writePlain 8 = .ok (.getfield 13, 3) := by decide +kernel
theorem zd_W_writePlain_11 : decode zc_W_writePlain 11 = .ok (.aload_n 0, 1) := by decide +kernel
theorem zd_W_writePlain_12 : decode zc_W_writePlain 12 = .ok (.getfield 7, 3) := by decide +kernel
theorem zd_W_writePlain_15 : decode zc_W_writePlain 15 = .ok (.iload_n 3, 1) := by decide +kernel
theorem zd_W_writePlain_16 : decode zc_W_writePlain 16 = .ok (.invokevirtual 16, 3) := by decide +kernel
theorem zd_W_writePlain_19 : decode zc_W_writePlain 19 = .ok (.invokevirtual 22, 3) := by decide +kernel
theorem zd_W_writePlain_22 : decode zc_W_writePlain 22 = .ok (.iinc 3 1, 3) := by decide +kernel
theorem zd_W_writePlain_25 : decode zc_W_writePlain 25 = .ok (.goto (-23), 3) := by decide +kernel
theorem zd_W_writePlain_28 : decode zc_W_writePlain 28 = .ok (.return_, 1) := by decide +kernel
theorem zd_X_put_0 : decode zc_X_put 0 = .ok (.aload_n 0, 1) := by decide +kernel
theorem zd_X_put_1 : decode zc_X_put 1 = .ok (.iload_n 1, 1) := by decide +kernel
theorem zd_X_put_2 : decode zc_X_put 2 = .ok (.invokevirtual 64, 3) := by decide +kernel
theorem zd_X_put_5 : decode zc_X_put 5 = .ok (.astore 5, 2) := by decide +kernel
theorem zd_X_put_7 : decode zc_X_put 7 = .ok (.iload 4, 2) := by decide +kernel
theorem zd_X_put_9 : decode zc_X_put 9 = .ok (.iconst 1, 1) := by decide +kernel
theorem zd_X_put_10 : decode zc_X_put 10 = .ok (.if_icmp .lt 10, 3) := by decide +kernel
theorem zd_X_put_13 : decode zc_X_put 13 = .ok (.iload 4, 2) := by decide +kernel
theorem zd_X_put_15 : decode zc_X_put 15 = .ok (.bipush 8, 2) := by decide +kernel
theorem zd_X_put_17 : decode zc_X_put 17 = .ok (.if_icmp .le 13, 3) := by decide +kernel
theorem zd_X_put_20 : decode zc_X_put 20 = .ok (.new 68, 3) := by decide +kernel
theorem zd_X_put_23 : decode zc_X_put 23 = .ok (.dup, 1) := by decide +kernel
theorem zd_X_put_24 : decode zc_X_put 24 = .ok (.ldc 70, 2) := by decide +kernel
theorem zd_X_put_26 : decode zc_X_put 26 = .ok (.invokespecial 72, 3) := by decide +kernel
theorem zd_X_put_29 : decode zc_X_put 29 = .ok (.athrow, 1) := by decide +kernel
theorem zd_X_put_30 : decode zc_X_put 30 = .ok (.iload 4, 2) := by decide +kernel
theorem zd_X_put_32 : decode zc_X_put 32 = .ok (.aload 5, 2) := by decide +kernel
theorem zd_X_put_34 : decode zc_X_put 34 = .ok (.invokevirtual 75, 3) := by decide +kernel
theorem zd_X_put_37 : decode zc_X_put 37 = .ok (.if_icmp .le 13, 3) := by decide +kernel
theorem zd_X_put_40 : decode zc_X_put 40 = .ok (.new 79, 3) := by decide +kernel
theorem zd_X_put_43 : decode zc_X_put 43 = .ok (.dup, 1) := by decide +kernel
theorem zd_X_put_44 : decode zc_X_put 44 = .ok (.ldc 81, 2) := by decide +kernel
theorem zd_X_put_46 : decode zc_X_put 46 = .ok (.invokespecial 83, 3) := by decide +kernel
theorem zd_X_put_49 : decode zc_X_put 49 = .ok (.athrow, 1) := by decide +kernel
theorem zd_X_put_50 : decode zc_X_put 50 = .ok (.iconst 0, 1) := by decide +kernel
theorem zd_X_put_51 : decode zc_X_put 51 = .ok (.istore 6, 2) := by decide +kernel
theorem zd_X_put_53 : decode zc_X_put 53 = .ok (.iload 6, 2) := by decide +kernel
theorem zd_X_put_55 : decode zc_X_put 55 = .ok (.iload 4, 2) := by decide +kernel
theorem zd_X_put_57 : decode zc_X_put 57 = .ok (.if_icmp .ge 22, 3) := by decide +kernel
theorem zd_X_put_60 : decode zc_X_put 60 = .ok (.aload 5, 2) := by decide +kernel
theorem zd_X_put_62 : decode zc_X_put 62 = .ok (.lload_n 2, 1) := by decide +kernel
theorem zd_X_put_63 : decode zc_X_put 63 = .ok (.bipush 8, 2) := by decide +kernel
theorem zd_X_put_65 : decode zc_X_put 65 = .ok (.iload 6, 2) := by decide +kernel
theorem zd_X_put_67 : decode zc_X_put 67 = .ok (.imul, 1) := by decide +kernel
theorem zd_X_put_68 : decode zc_X_put 68 = .ok (.lushr, 1) := by decide +kernel
theorem zd_X_put_69 : decode zc_X_put 69 = .ok (.l2i, 1) := by decide +kernel
theorem zd_X_put_70 : decode zc_X_put 70 = .ok (.invokevirtual 84, 3) := by decide +kernel
theorem zd_X_put_73 : decode zc_X_put 73 = .ok (.iinc 6 1, 3) := by decide +kernel
theorem zd_X_put_76 : decode zc_X_put 76 = .ok (.goto (-23), 3) := by decide +kernel
theorem zd_X_put_79 : decode zc_X_put 79 = .ok (.return_, 1) := by decide +kernel
theorem zd_X_empty_0 : decode zc_X_empty 0 = .ok (.aload_n 0, 1) := by decide +kernel
theorem zd_X_empty_1 : decode zc_X_empty 1 = .ok (.iload_n 1, 1) := by decide +kernel
theorem zd_X_empty_2 : decode zc_X_empty 2 = .ok (.invokevirtual 64, 3) := by decide +kernel
theorem zd_X_empty_5 : decode zc_X_empty 5 = .ok (.astore_n 2, 1) := by decide +kernel
theorem zd_X_empty_6 : decode zc_X_empty 6 = .ok (.aload_n 2, 1) := by decide +kernel
theorem zd_X_empty_7 : decode zc_X_empty 7 = .ok (.getfield 87, 3) := by decide +kernel
theorem zd_X_empty_10 : decode zc_X_empty 10 = .ok (.istore_n 3, 1) := by decide +kernel
theorem zd_X_empty_11 : decode zc_X_empty 11 = .ok (.aload_n 2, 1) := by decide +kernel
theorem zd_X_empty_12 : decode zc_X_empty 12 = .ok (.invokevirtual 91, 3) := by decide +kernel
theorem zd_X_empty_15 : decode zc_X_empty 15 = .ok (.iload_n 3, 1) := by decide +kernel
theorem zd_X_empty_16 : decode zc_X_empty 16 = .ok (.ireturn, 1) := by decide +kernel
theorem zd_X_pack_0 : decode zc_X_pack 0 = .ok (.iload_n 1, 1) := by decide +kernel
theorem zd_X_pack_1 : decode zc_X_pack 1 = .ok (.invokestatic 94, 3) := by decide +kernel
theorem zd_X_pack_4 : decode zc_X_pack 4 = .ok (.aload_n 0, 1) := by decide +kernel
theorem zd_X_pack_5 : decode zc_X_pack 5 = .ok (.getfield 32, 3) := by decide +kernel
theorem zd_X_pack_8 : decode zc_X_pack 8 = .ok (.iload_n 1, 1) := by decide +kernel
theorem zd_X_pack_9 : decode zc_X_pack 9 = .ok (.ifCond .ne 10, 3) := by decide +kernel
theorem zd_X_pack_12 : decode zc_X_pack 12 = .ok (.aload_n 0, 1) := by decide +kernel
theorem zd_X_pack_13 : decode zc_X_pack 13 = .ok (.getfield 39, 3) := by decide +kernel
theorem zd_X_pack_16 : decode zc_X_pack 16 = .ok (.goto 7, 3) := by decide +kernel
theorem zd_X_pack_19 : decode zc_X_pack 19 = .ok (.aload_n 0, 1) := by decide +kernel
theorem zd_X_pack_20 : decode zc_X_pack 20 = .ok (.getfield 46, 3) := by decide +kernel
theorem zd_X_pack_23 : decode zc_X_pack 23 = .ok (.invokevirtual 97, 3) := by decide +kernel
theorem zd_X_pack_26 : decode zc_X_pack 26 = .ok (.aload_n 0, 1) := by decide +kernel
theorem zd_X_pack_27 : decode zc_X_pack 27 = .ok (.getfield 18, 3) := by decide +kernel
theorem zd_X_pack_30 : decode zc_X_pack 30 = .ok (.getfield 87, 3) := by decide +kernel
theorem zd_X_pack_33 : decode zc_X_pack 33 = .ok (.ireturn, 1) := by decide +kernel
theorem zd_X_unpack_0 : decode zc_X_unpack 0 = .ok (.iload_n 1, 1) := by decide +kernel
theorem zd_X_unpack_1 : decode zc_X_unpack 1 = .ok (.invokestatic 94, 3) := by decide +kernel
theorem zd_X_unpack_4 : decode zc_X_unpack 4 = .ok (.iload_n 1, 1) := by decide +kernel
theorem zd_X_unpack_5 : decode zc_X_unpack 5 = .ok (.ifCond .ne 10, 3) := by decide +kernel
theorem zd_X_unpack_8 : decode zc_X_unpack 8 = .ok (.aload_n 0, 1) := by decide +kernel
theorem zd_X_unpack_9 : decode zc_X_unpack 9 = .ok (.getfield 54, 3) := by decide +kernel
theorem zd_X_unpack_12 : decode zc_X_unpack 12 = .ok (.goto 7, 3) := by decide +kernel
theorem zd_X_unpack_15 : decode zc_X_unpack 15 = .ok (.aload_n 0, 1) := by decide +kernel
theorem zd_X_unpack_16 : decode zc_X_unpack 16 = .ok (.getfield 61, 3) := by decide +kernel
theorem zd_X_unpack_19 : decode zc_X_unpack 19 = .ok (.astore_n 2, 1) := by decide +kernel
theorem zd_X_unpack_20 : decode zc_X_unpack 20 = .ok (.aload_n 2, 1) := by decide +kernel
theorem zd_X_unpack_21 : decode zc_X_unpack 21 = .ok (.invokevirtual 101, 3) := by decide +kernel
theorem zd_X_unpack_24 : decode zc_X_unpack 24 = .ok (.aload_n 2, 1) := by decide +kernel
theorem zd_X_unpack_25 : decode zc_X_unpack 25 = .ok (.invokevirtual 106, 3) := by decide +kernel
theorem zd_X_unpack_28 : decode zc_X_unpack 28 = .ok (.aload_n 2, 1) := by decide +kernel
theorem zd_X_unpack_29 : decode zc_X_unpack 29 = .ok (.invokevirtual 109, 3) := by decide +kernel
theorem zd_X_unpack_32 : decode zc_X_unpack 32 = .ok (.ifCond .eq 10, 3) := by decide +kernel
theorem zd_X_unpack_35 : decode zc_X_unpack 35 = .ok (.iconst (-1), 1) := by decide +kernel
theorem zd_X_unpack_36 : decode zc_X_unpack 36 = .ok (.aload_n 2, 1) := by decide +kernel
theorem zd_X_unpack_37 : decode zc_X_unpack 37 = .ok (.getfield 113, 3) := by decide +kernel
theorem zd_X_unpack_40 : decode zc_X_unpack 40 = .ok (.isub, 1) := by decide +kernel
theorem zd_X_unpack_41 : decode zc_X_unpack 41 = .ok (.ireturn, 1) := by decide +kernel
theorem zd_X_unpack_42 : decode zc_X_unpack 42 = .ok (.aload_n 0, 1) := by decide +kernel
theorem zd_X_unpack_43 : decode zc_X_unpack 43 = .ok (.getfield 14, 3) := by decide +kernel
theorem zd_X_unpack_46 : decode zc_X_unpack 46 = .ok (.aload_n 0, 1) := by decide +kernel
theorem zd_X_unpack_47 : decode zc_X_unpack 47 = .ok (.getfield 24, 3) := by decide +kernel
theorem zd_X_unpack_50 : decode zc_X_unpack 50 = .ok (.invokevirtual 116, 3) := by decide +kernel
theorem zd_X_unpack_53 : decode zc_X_unpack 53 = .ok (.aload_n 0, 1) := by decide +kernel
theorem zd_X_unpack_54 : decode zc_X_unpack 54 = .ok (.getfield 14, 3) := by decide +kernel
theorem zd_X_unpack_57 : decode zc_X_unpack 57 = .ok (.getfield 87, 3) := by decide +kernel
theorem zd_X_unpack_60 : decode zc_X_unpack 60 = .ok (.ireturn, 1) := by decide +kernel
theorem zd_X_size_0 : decode zc_X_size 0 = .ok (.aload_n 0, 1) := by decide +kernel
theorem zd_X_size_1 : decode zc_X_size 1 = .ok (.iload_n 1, 1) := by decide +kernel
theorem zd_X_size_2 : decode zc_X_size 2 = .ok (.invokevirtual 64, 3) := by decide +kernel
theorem zd_X_size_5 : decode zc_X_size 5 = .ok (.getfield 87, 3) := by decide +kernel
theorem zd_X_size_8 : decode zc_X_size 8 = .ok (.ireturn, 1) := by decide +kernel
theorem zd_X_get_0 : decode zc_X_get 0 = .ok (.aload_n 0, 1) := by decide +kernel
theorem zd_X_get_1 : decode zc_X_get 1 = .ok (.iload_n 1, 1) := by decide +kernel
theorem zd_X_get_2 : decode zc_X_get 2 = .ok (.invokevirtual 64, 3) := by decide +kernel
theorem zd_X_get_5 : decode zc_X_get 5 = .ok (.astore_n 3, 1) := by decide +kernel
theorem zd_X_get_6 : decode zc_X_get 6 = .ok (.iload_n 2, 1) := by decide +kernel
theorem zd_X_get_7 : decode zc_X_get 7 = .ok (.ifCond .lt 11, 3) := by decide +kernel
theorem zd_X_get_10 : decode zc_X_get 10 = .ok (.iload_n 2, 1) := by decide +kernel
theorem zd_X_get_11 : decode zc_X_get 11 = .ok (.aload_n 3, 1) := by decide +kernel
theorem zd_X_get_12 : decode zc_X_get 12 = .ok (.getfield 87, 3) := by decide +kernel
theorem zd_X_get_15 : decode zc_X_get 15 = .ok (.if_icmp .lt 13, 3) := by decide +kernel
theorem zd_X_get_18 : decode zc_X_get 18 = .ok (.new 79, 3) := by decide +kernel
theorem zd_X_get_21 : decode zc_X_get 21 = .ok (.dup, 1) := by decide +kernel
theorem zd_X_get_22 : decode zc_X_get 22 = .ok (.ldc 120, 2) := by decide +kernel
theorem zd_X_get_24 : decode zc_X_get 24 = .ok (.invokespecial 83, 3) := by decide +kernel
theorem zd_X_get_27 : decode zc_X_get 27 = .ok (.athrow, 1) := by decide +kernel
theorem zd_X_get_28 : decode zc_X_get 28 = .ok (.aload_n 3, 1) := by decide +kernel
theorem zd_X_get_29 : decode zc_X_get 29 = .ok (.iload_n 2, 1) := by decide +kernel
theorem zd_X_get_30 : decode zc_X_get 30 = .ok (.invokevirtual 122, 3) := by decide +kernel
theorem zd_X_get_33 : decode zc_X_get 33 = .ok (.ireturn, 1) := by decide +kernel
theorem zd_X_found_0 : decode zc_X_found 0 = .ok (.iload_n 1, 1) := by decide +kernel
theorem zd_X_found_1 : decode zc_X_found 1 = .ok (.ifCond .lt 8, 3) := by decide +kernel
theorem zd_X_found_4 : decode zc_X_found 4 = .ok (.iload_n 1, 1) := by decide +kernel
theorem zd_X_found_5 : decode zc_X_found 5 = .ok (.iconst 1, 1) := by decide +kernel
theorem zd_X_found_6 : decode zc_X_found 6 = .ok (.if_icmp .le 13, 3) := by decide +kernel
theorem zd_X_found_9 : decode zc_X_found 9 = .ok (.new 68, 3) := by decide +kernel
theorem zd_X_found_12 : decode zc_X_found 12 = .ok (.dup, 1) := by decide +kernel
theorem zd_X_found_13 : decode zc_X_found 13 = .ok (.ldc 126, 2) := by decide +kernel
theorem zd_X_found_15 : decode zc_X_found 15 = .ok (.invokespecial 72, 3) := by decide +kernel
theorem zd_X_found_18 : decode zc_X_found 18 = .ok (.athrow, 1) := by decide +kernel
theorem zd_X_found_19 : decode zc_X_found 19 = .ok (.iload_n 1, 1) := by decide +kernel
theorem zd_X_found_20 : decode zc_X_found 20 = .ok (.ifCond .ne 13, 3) := by decide +kernel
theorem zd_X_found_23 : decode zc_X_found 23 = .ok (.aload_n 0, 1) := by decide +kernel
theorem zd_X_found_24 : decode zc_X_found 24 = .ok (.getfield 32, 3) := by decide +kernel
theorem zd_X_found_27 : decode zc_X_found 27 = .ok (.getfield 128, 3) := by decide +kernel
theorem zd_X_found_30 : decode zc_X_found 30 = .ok (.goto 10, 3) := by decide +kernel
theorem zd_X_found_33 : decode zc_X_found 33 = .ok (.aload_n 0, 1) := by decide +kernel
theorem zd_X_found_34 : decode zc_X_found 34 = .ok (.getfield 32, 3) := by decide +kernel
theorem zd_X_found_37 : decode zc_X_found 37 = .ok (.getfield 131, 3) := by decide +kernel
theorem zd_X_found_40 : decode zc_X_found 40 = .ok (.ireturn, 1) := by decide +kernel
theorem zd_X_crc_0 : decode zc_X_crc 0 = .ok (.aload_n 0, 1) := by decide +kernel
theorem zd_X_crc_1 : decode zc_X_crc 1 = .ok (.iload_n 1, 1) := by decide +kernel
theorem zd_X_crc_2 : decode zc_X_crc 2 = .ok (.invokevirtual 64, 3) := by decide +kernel
theorem zd_X_crc_5 : decode zc_X_crc 5 = .ok (.astore_n 2, 1) := by decide +kernel
theorem zd_X_crc_6 : decode zc_X_crc 6 = .ok (.iconst (-1), 1) := by decide +kernel
theorem zd_X_crc_7 : decode zc_X_crc 7 = .ok (.istore_n 3, 1) := by decide +kernel
theorem zd_X_crc_8 : decode zc_X_crc 8 = .ok (.iconst 0, 1) := by decide +kernel
theorem zd_X_crc_9 : decode zc_X_crc 9 = .ok (.istore 4, 2) := by decide +kernel
theorem zd_X_crc_11 : decode zc_X_crc 11 = .ok (.iload 4, 2) := by decide +kernel
theorem zd_X_crc_13 : decode zc_X_crc 13 = .ok (.aload_n 2, 1) := by decide +kernel
theorem zd_X_crc_14 : decode zc_X_crc 14 = .ok (.getfield 87, 3) := by decide +kernel
theorem zd_X_crc_17 : decode zc_X_crc 17 = .ok (.if_icmp .ge 21, 3) := by decide +kernel
theorem zd_X_crc_20 : decode zc_X_crc 20 = .ok (.iload_n 3, 1) := by decide +kernel
theorem zd_X_crc_21 : decode zc_X_crc 21 = .ok (.aload_n 2, 1) := by decide +kernel
theorem zd_X_crc_22 : decode zc_X_crc 22 = .ok (.iload 4, 2) := by decide +kernel
theorem zd_X_crc_24 : decode zc_X_crc 24 = .ok (.invokevirtual 122, 3) := by decide +kernel
theorem zd_X_crc_27 : decode zc_X_crc 27 = .ok (.ixor, 1) := by decide +kernel
theorem zd_X_crc_28 : decode zc_X_crc 28 = .ok (.invokestatic 134, 3) := by decide +kernel
theorem zd_X_crc_31 : decode zc_X_crc 31 = .ok (.istore_n 3, 1) := by decide +kernel
theorem zd_X_crc_32 : decode zc_X_crc 32 = .ok (.iinc 4 1, 3) := by decide +kernel
theorem zd_X_crc_35 : decode zc_X_crc 35 = .ok (.goto (-24), 3) := by decide +kernel
theorem zd_X_crc_38 : decode zc_X_crc 38 = .ok (.iload_n 3, 1) := by decide +kernel
theorem zd_X_crc_39 : decode zc_X_crc 39 = .ok (.iconst (-1), 1) := by decide +kernel
theorem zd_X_crc_40 : decode zc_X_crc 40 = .ok (.ixor, 1) := by decide +kernel
theorem zd_X_crc_41 : decode zc_X_crc 41 = .ok (.ireturn, 1) := by decide +kernel
theorem zd_X_hash_0 : decode zc_X_hash 0 = .ok (.aload_n 0, 1) := by decide +kernel
theorem zd_X_hash_1 : decode zc_X_hash 1 = .ok (.iload_n 1, 1) := by decide +kernel
theorem zd_X_hash_2 : decode zc_X_hash 2 = .ok (.invokevirtual 64, 3) := by decide +kernel
theorem zd_X_hash_5 : decode zc_X_hash 5 = .ok (.astore_n 3, 1) := by decide +kernel
theorem zd_X_hash_6 : decode zc_X_hash 6 = .ok (.aload_n 3, 1) := by decide +kernel
theorem zd_X_hash_7 : decode zc_X_hash 7 = .ok (.getfield 87, 3) := by decide +kernel
theorem zd_X_hash_10 : decode zc_X_hash 10 = .ok (.bipush 16, 2) := by decide +kernel
theorem zd_X_hash_12 : decode zc_X_hash 12 = .ok (.if_icmp .lt 11, 3) := by decide +kernel
theorem zd_X_hash_15 : decode zc_X_hash 15 = .ok (.aload_n 3, 1) := by decide +kernel
theorem zd_X_hash_16 : decode zc_X_hash 16 = .ok (.iload_n 2, 1) := by decide +kernel
theorem zd_X_hash_17 : decode zc_X_hash 17 = .ok (.invokestatic 137, 3) := by decide +kernel
theorem zd_X_hash_20 : decode zc_X_hash 20 = .ok (.goto 7, 3) := by decide +kernel
theorem zd_X_hash_23 : decode zc_X_hash 23 = .ok (.iload_n 2, 1) := by decide +kernel
theorem zd_X_hash_24 : decode zc_X_hash 24 = .ok (.ldc 141, 2) := by decide +kernel
theorem zd_X_hash_26 : decode zc_X_hash 26 = .ok (.iadd, 1) := by decide +kernel
theorem zd_X_hash_27 : decode zc_X_hash 27 = .ok (.istore 4, 2) := by decide +kernel
theorem zd_X_hash_29 : decode zc_X_hash 29 = .ok (.aload_n 3, 1) := by decide +kernel
theorem zd_X_hash_30 : decode zc_X_hash 30 = .ok (.iload 4, 2) := by decide +kernel
theorem zd_X_hash_32 : decode zc_X_hash 32 = .ok (.aload_n 3, 1) := by decide +kernel
theorem zd_X_hash_33 : decode zc_X_hash 33 = .ok (.getfield 87, 3) := by decide +kernel
theorem zd_X_hash_36 : decode zc_X_hash 36 = .ok (.iadd, 1) := by decide +kernel
theorem zd_X_hash_37 : decode zc_X_hash 37 = .ok (.invokestatic 142, 3) := by decide +kernel
theorem zd_X_hash_40 : decode zc_X_hash 40 = .ok (.invokestatic 145, 3) := by decide +kernel
theorem zd_X_hash_43 : decode zc_X_hash 43 = .ok (.ireturn, 1) := by decide +kernel
theorem zd_X_rowOf_0 : decode zc_X_rowOf 0 = .ok (.iload_n 1, 1) := by decide +kernel
theorem zd_X_rowOf_1 : decode zc_X_rowOf 1 = .ok (.ifCond .ne 8, 3) := by decide +kernel
theorem zd_X_rowOf_4 : decode zc_X_rowOf 4 = .ok (.aload_n 0, 1) := by decide +kernel
theorem zd_X_rowOf_5 : decode zc_X_rowOf 5 = .ok (.getfield 14, 3) := by decide +kernel
theorem zd_X_rowOf_8 : decode zc_X_rowOf 8 = .ok (.areturn, 1) := by decide +kernel
theorem zd_X_rowOf_9 : decode zc_X_rowOf 9 = .ok (.iload_n 1, 1) := by decide +kernel
theorem zd_X_rowOf_10 : decode zc_X_rowOf 10 = .ok (.iconst 1, 1) := by decide +kernel
theorem zd_X_rowOf_11 : decode zc_X_rowOf 11 = .ok (.if_icmp .ne 8, 3) := by decide +kernel
theorem zd_X_rowOf_14 : decode zc_X_rowOf 14 = .ok (.aload_n 0, 1) := by decide +kernel
theorem zd_X_rowOf_15 : decode zc_X_rowOf 15 = .ok (.getfield 18, 3) := by decide +kernel
theorem zd_X_rowOf_18 : decode zc_X_rowOf 18 = .ok (.areturn, 1) := by decide +kernel
theorem zd_X_rowOf_19 : decode zc_X_rowOf 19 = .ok (.iload_n 1, 1) := by decide +kernel
theorem zd_X_rowOf_20 : decode zc_X_rowOf 20 = .ok (.iconst 2, 1) := by decide +kernel
theorem zd_X_rowOf_21 : decode zc_X_rowOf 21 = .ok (.if_icmp .ne 8, 3) := by decide +kernel
theorem zd_X_rowOf_24 : decode zc_X_rowOf 24 = .ok (.aload_n 0, 1) := by decide +kernel
theorem zd_X_rowOf_25 : decode zc_X_rowOf 25 = .ok (.getfield 21, 3) := by decide +kernel
theorem zd_X_rowOf_28 : decode zc_X_rowOf 28 = .ok (.areturn, 1) := by decide +kernel
theorem zd_X_rowOf_29 : decode zc_X_rowOf 29 = .ok (.new 68, 3) := by decide +kernel
theorem zd_X_rowOf_32 : decode zc_X_rowOf 32 = .ok (.dup, 1) := by decide +kernel
theorem zd_X_rowOf_33 : decode zc_X_rowOf 33 = .ok (.ldc 148, 2) := by decide +kernel
theorem zd_X_rowOf_35 : decode zc_X_rowOf 35 = .ok (.invokespecial 72, 3) := by decide +kernel
theorem zd_X_rowOf_38 : decode zc_X_rowOf 38 = .ok (.athrow, 1) := by decide +kernel
theorem zd_X_requireFormat_0 : decode zc_X_requireFormat 0 = .ok (.iload_n 0, 1) := by decide +kernel
theorem zd_X_requireFormat_1 : decode zc_X_requireFormat 1 = .ok (.ifCond .lt 8, 3) := by decide +kernel
theorem zd_X_requireFormat_4 : decode zc_X_requireFormat 4 = .ok (.iload_n 0, 1) := by decide +kernel
theorem zd_X_requireFormat_5 : decode zc_X_requireFormat 5 = .ok (.iconst 1, 1) := by decide +kernel
theorem zd_X_requireFormat_6 : decode zc_X_requireFormat 6 = .ok (.if_icmp .le 13, 3) := by decide +kernel
theorem zd_X_requireFormat_9 : decode zc_X_requireFormat 9 = .ok (.new 68, 3) := by decide +kernel
theorem zd_X_requireFormat_12 : decode zc_X_requireFormat 12 = .ok (.dup, 1) := by decide +kernel
theorem zd_X_requireFormat_13 : decode zc_X_requireFormat 13 = .ok (.ldc 150, 2) := by decide +kernel
theorem zd_X_requireFormat_15 : decode zc_X_requireFormat 15 = .ok (.invokespecial 72, 3) := by decide +kernel
theorem zd_X_requireFormat_18 : decode zc_X_requireFormat 18 = .ok (.athrow, 1) := by decide +kernel
theorem zd_X_requireFormat_19 : decode zc_X_requireFormat 19 = .ok (.return_, 1) := by decide +kernel
theorem zd_X_crcStep_0 : decode zc_X_crcStep 0 = .ok (.iload_n 0, 1) := by decide +kernel
theorem zd_X_crcStep_1 : decode zc_X_crcStep 1 = .ok (.istore_n 1, 1) := by decide +kernel
theorem zd_X_crcStep_2 : decode zc_X_crcStep 2 = .ok (.iconst 0, 1) := by decide +kernel
theorem zd_X_crcStep_3 : decode zc_X_crcStep 3 = .ok (.istore_n 2, 1) := by decide +kernel
theorem zd_X_crcStep_4 : decode zc_X_crcStep 4 = .ok (.iload_n 2, 1) := by decide +kernel
theorem zd_X_crcStep_5 : decode zc_X_crcStep 5 = .ok (.bipush 8, 2) := by decide +kernel
theorem zd_X_crcStep_7 : decode zc_X_crcStep 7 = .ok (.if_icmp .ge 29, 3) := by decide +kernel
theorem zd_X_crcStep_10 : decode zc_X_crcStep 10 = .ok (.iload_n 1, 1) := by decide +kernel
theorem zd_X_crcStep_11 : decode zc_X_crcStep 11 = .ok (.iconst 1, 1) := by decide +kernel
theorem zd_X_crcStep_12 : decode zc_X_crcStep 12 = .ok (.iand, 1) := by decide +kernel
theorem zd_X_crcStep_13 : decode zc_X_crcStep 13 = .ok (.iconst 1, 1) := by decide +kernel
theorem zd_X_crcStep_14 : decode zc_X_crcStep 14 = .ok (.if_icmp .ne 12, 3) := by decide +kernel
theorem zd_X_crcStep_17 : decode zc_X_crcStep 17 = .ok (.iload_n 1, 1) := by decide +kernel
theorem zd_X_crcStep_18 : decode zc_X_crcStep 18 = .ok (.iconst 1, 1) := by decide +kernel
theorem zd_X_crcStep_19 : decode zc_X_crcStep 19 = .ok (.iushr, 1) := by decide +kernel
theorem zd_X_crcStep_20 : decode zc_X_crcStep 20 = .ok (.ldc 152, 2) := by decide +kernel
theorem zd_X_crcStep_22 : decode zc_X_crcStep 22 = .ok (.ixor, 1) := by decide +kernel
theorem zd_X_crcStep_23 : decode zc_X_crcStep 23 = .ok (.goto 6, 3) := by decide +kernel
theorem zd_X_crcStep_26 : decode zc_X_crcStep 26 = .ok (.iload_n 1, 1) := by decide +kernel
theorem zd_X_crcStep_27 : decode zc_X_crcStep 27 = .ok (.iconst 1, 1) := by decide +kernel
theorem zd_X_crcStep_28 : decode zc_X_crcStep 28 = .ok (.iushr, 1) := by decide +kernel
theorem zd_X_crcStep_29 : decode zc_X_crcStep 29 = .ok (.istore_n 1, 1) := by decide +kernel
theorem zd_X_crcStep_30 : decode zc_X_crcStep 30 = .ok (.iinc 2 1, 3) := by decide +kernel
theorem zd_X_crcStep_33 : decode zc_X_crcStep 33 = .ok (.goto (-29), 3) := by decide +kernel
theorem zd_X_crcStep_36 : decode zc_X_crcStep 36 = .ok (.iload_n 1, 1) := by decide +kernel
theorem zd_X_crcStep_37 : decode zc_X_crcStep 37 = .ok (.ireturn, 1) := by decide +kernel
theorem zd_X_mixLanes_0 : decode zc_X_mixLanes 0 = .ok (.aload_n 0, 1) := by decide +kernel
theorem zd_X_mixLanes_1 : decode zc_X_mixLanes 1 = .ok (.iconst 0, 1) := by decide +kernel
theorem zd_X_mixLanes_2 : decode zc_X_mixLanes 2 = .ok (.iload_n 1, 1) := by decide +kernel
theorem zd_X_mixLanes_3 : decode zc_X_mixLanes 3 = .ok (.ldc 153, 2) := by decide +kernel
theorem zd_X_mixLanes_5 : decode zc_X_mixLanes 5 = .ok (.iadd, 1) := by decide +kernel
theorem zd_X_mixLanes_6 : decode zc_X_mixLanes 6 = .ok (.ldc 154, 2) := by decide +kernel
theorem zd_X_mixLanes_8 : decode zc_X_mixLanes 8 = .ok (.iadd, 1) := by decide +kernel
theorem zd_X_mixLanes_9 : decode zc_X_mixLanes 9 = .ok (.invokestatic 155, 3) := by decide +kernel
theorem zd_X_mixLanes_12 : decode zc_X_mixLanes 12 = .ok (.iconst 1, 1) := by decide +kernel
theorem zd_X_mixLanes_13 : decode zc_X_mixLanes 13 = .ok (.invokestatic 159, 3) := by decide +kernel
theorem zd_X_mixLanes_16 : decode zc_X_mixLanes 16 = .ok (.aload_n 0, 1) := by decide +kernel
theorem zd_X_mixLanes_17 : decode zc_X_mixLanes 17 = .ok (.iconst 4, 1) := by decide +kernel
theorem zd_X_mixLanes_18 : decode zc_X_mixLanes 18 = .ok (.iload_n 1, 1) := by decide +kernel
theorem zd_X_mixLanes_19 : decode zc_X_mixLanes 19 = .ok (.ldc 154, 2) := by decide +kernel
theorem zd_X_mixLanes_21 : decode zc_X_mixLanes 21 = .ok (.iadd, 1) := by decide +kernel
theorem zd_X_mixLanes_22 : decode zc_X_mixLanes 22 = .ok (.invokestatic 155, 3) := by decide +kernel
theorem zd_X_mixLanes_25 : decode zc_X_mixLanes 25 = .ok (.bipush 7, 2) := by decide +kernel
theorem zd_X_mixLanes_27 : decode zc_X_mixLanes 27 = .ok (.invokestatic 159, 3) := by decide +kernel
theorem zd_X_mixLanes_30 : decode zc_X_mixLanes 30 = .ok (.iadd, 1) := by decide +kernel
theorem zd_X_mixLanes_31 : decode zc_X_mixLanes 31 = .ok (.aload_n 0, 1) := by decide +kernel
theorem zd_X_mixLanes_32 : decode zc_X_mixLanes 32 = .ok (.bipush 8, 2) := by decide +kernel
theorem zd_X_mixLanes_34 : decode zc_X_mixLanes 34 = .ok (.iload_n 1, 1) := by decide +kernel
theorem zd_X_mixLanes_35 : decode zc_X_mixLanes 35 = .ok (.invokestatic 155, 3) := by decide +kernel
theorem zd_X_mixLanes_38 : decode zc_X_mixLanes 38 = .ok (.bipush 12, 2) := by decide +kernel
theorem zd_X_mixLanes_40 : decode zc_X_mixLanes 40 = .ok (.invokestatic 159, 3) := by decide +kernel
theorem zd_X_mixLanes_43 : decode zc_X_mixLanes 43 = .ok (.iadd, 1) := by decide +kernel
theorem zd_X_mixLanes_44 : decode zc_X_mixLanes 44 = .ok (.aload_n 0, 1) := by decide +kernel
theorem zd_X_mixLanes_45 : decode zc_X_mixLanes 45 = .ok (.bipush 12, 2) := by decide +kernel
theorem zd_X_mixLanes_47 : decode zc_X_mixLanes 47 = .ok (.iload_n 1, 1) := by decide +kernel
theorem zd_X_mixLanes_48 : decode zc_X_mixLanes 48 = .ok (.ldc 153, 2) := by decide +kernel
theorem zd_X_mixLanes_50 : decode zc_X_mixLanes 50 = .ok (.isub, 1) := by decide +kernel
theorem zd_X_mixLanes_51 : decode zc_X_mixLanes 51 = .ok (.invokestatic 155, 3) := by decide +kernel
theorem zd_X_mixLanes_54 : decode zc_X_mixLanes 54 = .ok (.bipush 18, 2) := by decide +kernel
theorem zd_X_mixLanes_56 : decode zc_X_mixLanes 56 = .ok (.invokestatic 159, 3) := by decide +kernel
theorem zd_X_mixLanes_59 : decode zc_X_mixLanes 59 = .ok (.iadd, 1) := by decide +kernel
theorem zd_X_mixLanes_60 : decode zc_X_mixLanes 60 = .ok (.ireturn, 1) := by decide +kernel
theorem zd_X_lane_0 : decode zc_X_lane 0 = .ok (.iload_n 2, 1) := by decide +kernel
theorem zd_X_lane_1 : decode zc_X_lane 1 = .ok (.istore_n 3, 1) := by decide +kernel
theorem zd_X_lane_2 : decode zc_X_lane 2 = .ok (.iconst 0, 1) := by decide +kernel
theorem zd_X_lane_3 : decode zc_X_lane 3 = .ok (.istore 4, 2) := by decide +kernel
theorem zd_X_lane_5 : decode zc_X_lane 5 = .ok (.iload 4, 2) := by decide +kernel
theorem zd_X_lane_7 : decode zc_X_lane 7 = .ok (.bipush 16, 2) := by decide +kernel
theorem zd_X_lane_9 : decode zc_X_lane 9 = .ok (.iadd, 1) := by decide +kernel
theorem zd_X_lane_10 : decode zc_X_lane 10 = .ok (.aload_n 0, 1) := by decide +kernel
theorem zd_X_lane_11 : decode zc_X_lane 11 = .ok (.getfield 87, 3) := by decide +kernel
theorem zd_X_lane_14 : decode zc_X_lane 14 = .ok (.if_icmp .gt 31, 3) := by decide +kernel
theorem zd_X_lane_17 : decode zc_X_lane 17 = .ok (.iload_n 3, 1) := by decide +kernel
theorem zd_X_lane_18 : decode zc_X_lane 18 = .ok (.aload_n 0, 1) := by decide +kernel
theorem zd_X_lane_19 : decode zc_X_lane 19 = .ok (.iload 4, 2) := by decide +kernel
theorem zd_X_lane_21 : decode zc_X_lane 21 = .ok (.iload_n 1, 1) := by decide +kernel
theorem zd_X_lane_22 : decode zc_X_lane 22 = .ok (.iadd, 1) := by decide +kernel
theorem zd_X_lane_23 : decode zc_X_lane 23 = .ok (.invokevirtual 163, 3) := by decide +kernel
theorem zd_X_lane_26 : decode zc_X_lane 26 = .ok (.ldc 154, 2) := by decide +kernel
theorem zd_X_lane_28 : decode zc_X_lane 28 = .ok (.imul, 1) := by decide +kernel
theorem zd_X_lane_29 : decode zc_X_lane 29 = .ok (.iadd, 1) := by decide +kernel
theorem zd_X_lane_30 : decode zc_X_lane 30 = .ok (.bipush 13, 2) := by decide +kernel
theorem zd_X_lane_32 : decode zc_X_lane 32 = .ok (.invokestatic 159, 3) := by decide +kernel
theorem zd_X_lane_35 : decode zc_X_lane 35 = .ok (.ldc 153, 2) := by decide +kernel
theorem zd_X_lane_37 : decode zc_X_lane 37 = .ok (.imul, 1) := by decide +kernel
theorem zd_X_lane_38 : decode zc_X_lane 38 = .ok (.istore_n 3, 1) := by decide +kernel
theorem zd_X_lane_39 : decode zc_X_lane 39 = .ok (.iinc 4 16, 3) := by decide +kernel
theorem zd_X_lane_42 : decode zc_X_lane 42 = .ok (.goto (-37), 3) := by decide +kernel
theorem zd_X_lane_45 : decode zc_X_lane 45 = .ok (.iload_n 3, 1) := by decide +kernel
theorem zd_X_lane_46 : decode zc_X_lane 46 = .ok (.ireturn, 1) := by decide +kernel
theorem zd_X_mixRest_0 : decode zc_X_mixRest 0 = .ok (.iload_n 1, 1) := by decide +kernel
theorem zd_X_mixRest_1 : decode zc_X_mixRest 1 = .ok (.istore_n 2, 1) := by decide +kernel
theorem zd_X_mixRest_2 : decode zc_X_mixRest 2 = .ok (.aload_n 0, 1) := by decide +kernel
theorem zd_X_mixRest_3 : decode zc_X_mixRest 3 = .ok (.getfield 87, 3) := by decide +kernel
theorem zd_X_mixRest_6 : decode zc_X_mixRest 6 = .ok (.bipush (-4), 2) := by decide +kernel
theorem zd_X_mixRest_8 : decode zc_X_mixRest 8 = .ok (.iand, 1) := by decide +kernel
theorem zd_X_mixRest_9 : decode zc_X_mixRest 9 = .ok (.istore_n 3, 1) := by decide +kernel
theorem zd_X_mixRest_10 : decode zc_X_mixRest 10 = .ok (.aload_n 0, 1) := by decide +kernel
theorem zd_X_mixRest_11 : decode zc_X_mixRest 11 = .ok (.getfield 87, 3) := by decide +kernel
theorem zd_X_mixRest_14 : decode zc_X_mixRest 14 = .ok (.bipush (-16), 2) := by decide +kernel
theorem zd_X_mixRest_16 : decode zc_X_mixRest 16 = .ok (.iand, 1) := by decide +kernel
theorem zd_X_mixRest_17 : decode zc_X_mixRest 17 = .ok (.istore 4, 2) := by decide +kernel
theorem zd_X_mixRest_19 : decode zc_X_mixRest 19 = .ok (.iload 4, 2) := by decide +kernel
theorem zd_X_mixRest_21 : decode zc_X_mixRest 21 = .ok (.iload_n 3, 1) := by decide +kernel
theorem zd_X_mixRest_22 : decode zc_X_mixRest 22 = .ok (.if_icmp .ge 29, 3) := by decide +kernel
theorem zd_X_mixRest_25 : decode zc_X_mixRest 25 = .ok (.iload_n 2, 1) := by decide +kernel
theorem zd_X_mixRest_26 : decode zc_X_mixRest 26 = .ok (.aload_n 0, 1) := by decide +kernel
theorem zd_X_mixRest_27 : decode zc_X_mixRest 27 = .ok (.iload 4, 2) := by decide +kernel
theorem zd_X_mixRest_29 : decode zc_X_mixRest 29 = .ok (.invokevirtual 163, 3) := by decide +kernel
theorem zd_X_mixRest_32 : decode zc_X_mixRest 32 = .ok (.ldc 166, 2) := by decide +kernel
theorem zd_X_mixRest_34 : decode zc_X_mixRest 34 = .ok (.imul, 1) := by decide +kernel
theorem zd_X_mixRest_35 : decode zc_X_mixRest 35 = .ok (.iadd, 1) := by decide +kernel
theorem zd_X_mixRest_36 : decode zc_X_mixRest 36 = .ok (.bipush 17, 2) := by decide +kernel
theorem zd_X_mixRest_38 : decode zc_X_mixRest 38 = .ok (.invokestatic 159, 3) := by decide +kernel
theorem zd_X_mixRest_41 : decode zc_X_mixRest 41 = .ok (.ldc 167, 2) := by decide +kernel
theorem zd_X_mixRest_43 : decode zc_X_mixRest 43 = .ok (.imul, 1) := by decide +kernel
theorem zd_X_mixRest_44 : decode zc_X_mixRest 44 = .ok (.istore_n 2, 1) := by decide +kernel
theorem zd_X_mixRest_45 : decode zc_X_mixRest 45 = .ok (.iinc 4 4, 3) := by decide +kernel
theorem zd_X_mixRest_48 : decode zc_X_mixRest 48 = .ok (.goto (-29), 3) := by decide +kernel
theorem zd_X_mixRest_51 : decode zc_X_mixRest 51 = .ok (.iload_n 3, 1) := by decide +kernel
theorem zd_X_mixRest_52 : decode zc_X_mixRest 52 = .ok (.istore 4, 2) := by decide +kernel
theorem zd_X_mixRest_54 : decode zc_X_mixRest 54 = .ok (.iload 4, 2) := by decide +kernel
theorem zd_X_mixRest_56 : decode zc_X_mixRest 56 = .ok (.aload_n 0, 1) := by decide +kernel
theorem zd_X_mixRest_57 : decode zc_X_mixRest 57 = .ok (.getfield 87, 3) := by decide +kernel
theorem zd_X_mixRest_60 : decode zc_X_mixRest 60 = .ok (.if_icmp .ge 29, 3) := by decide +kernel
theorem zd_X_mixRest_63 : decode zc_X_mixRest 63 = .ok (.iload_n 2, 1) := by decide +kernel
theorem zd_X_mixRest_64 : decode zc_X_mixRest 64 = .ok (.aload_n 0, 1) := by decide +kernel
theorem zd_X_mixRest_65 : decode zc_X_mixRest 65 = .ok (.iload 4, 2) := by decide +kernel
theorem zd_X_mixRest_67 : decode zc_X_mixRest 67 = .ok (.invokevirtual 122, 3) := by decide +kernel
theorem zd_X_mixRest_70 : decode zc_X_mixRest 70 = .ok (.ldc 141, 2) := by decide +kernel
theorem zd_X_mixRest_72 : decode zc_X_mixRest 72 = .ok (.imul, 1) := by decide +kernel
theorem zd_X_mixRest_73 : decode zc_X_mixRest 73 = .ok (.iadd, 1) := by decide +kernel
theorem zd_X_mixRest_74 : decode zc_X_mixRest 74 = .ok (.bipush 11, 2) := by decide +kernel
theorem zd_X_mixRest_76 : decode zc_X_mixRest 76 = .ok (.invokestatic 159, 3) := by decide +kernel
theorem zd_X_mixRest_79 : decode zc_X_mixRest 79 = .ok (.ldc 153, 2) := by decide +kernel
theorem zd_X_mixRest_81 : decode zc_X_mixRest 81 = .ok (.imul, 1) := by decide +kernel
theorem zd_X_mixRest_82 : decode zc_X_mixRest 82 = .ok (.istore_n 2, 1) := by decide +kernel
theorem zd_X_mixRest_83 : decode zc_X_mixRest 83 = .ok (.iinc 4 1, 3) := by decide +kernel
theorem zd_X_mixRest_86 : decode zc_X_mixRest 86 = .ok (.goto (-32), 3) := by decide +kernel
theorem zd_X_mixRest_89 : decode zc_X_mixRest 89 = .ok (.iload_n 2, 1) := by decide +kernel
theorem zd_X_mixRest_90 : decode zc_X_mixRest 90 = .ok (.ireturn, 1) := by decide +kernel
theorem zd_X_finish_0 : decode zc_X_finish 0 = .ok (.iload_n 0, 1) := by decide +kernel
theorem zd_X_finish_1 : decode zc_X_finish 1 = .ok (.istore_n 1, 1) := by decide +kernel
theorem zd_X_finish_2 : decode zc_X_finish 2 = .ok (.iload_n 1, 1) := by decide +kernel
theorem zd_X_finish_3 : decode zc_X_finish 3 = .ok (.iload_n 1, 1) := by decide +kernel
theorem zd_X_finish_4 : decode zc_X_finish 4 = .ok (.bipush 15, 2) := by decide +kernel
theorem zd_X_finish_6 : decode zc_X_finish 6 = .ok (.iushr, 1) := by decide +kernel
theorem zd_X_finish_7 : decode zc_X_finish 7 = .ok (.ixor, 1) := by decide +kernel
theorem zd_X_finish_8 : decode zc_X_finish 8 = .ok (.istore_n 1, 1) := by decide +kernel
theorem zd_X_finish_9 : decode zc_X_finish 9 = .ok (.iload_n 1, 1) := by decide +kernel
theorem zd_X_finish_10 : decode zc_X_finish 10 = .ok (.ldc 154, 2) := by decide +kernel
theorem zd_X_finish_12 : decode zc_X_finish 12 = .ok (.imul, 1) := by decide +kernel
theorem zd_X_finish_13 : decode zc_X_finish 13 = .ok (.istore_n 1, 1) := by decide +kernel
theorem zd_X_finish_14 : decode zc_X_finish 14 = .ok (.iload_n 1, 1) := by decide +kernel
theorem zd_X_finish_15 : decode zc_X_finish 15 = .ok (.iload_n 1, 1) := by decide +kernel
theorem zd_X_finish_16 : decode zc_X_finish 16 = .ok (.bipush 13, 2) := by decide +kernel
theorem zd_X_finish_18 : decode zc_X_finish 18 = .ok (.iushr, 1) := by decide +kernel
theorem zd_X_finish_19 : decode zc_X_finish 19 = .ok (.ixor, 1) := by decide +kernel
theorem zd_X_finish_20 : decode zc_X_finish 20 = .ok (.istore_n 1, 1) := by decide +kernel
theorem zd_X_finish_21 : decode zc_X_finish 21 = .ok (.iload_n 1, 1) := by decide +kernel
theorem zd_X_finish_22 : decode zc_X_finish 22 = .ok (.ldc 166, 2) := by decide +kernel
theorem zd_X_finish_24 : decode zc_X_finish 24 = .ok (.imul, 1) := by decide +kernel
theorem zd_X_finish_25 : decode zc_X_finish 25 = .ok (.istore_n 1, 1) := by decide +kernel
theorem zd_X_finish_26 : decode zc_X_finish 26 = .ok (.iload_n 1, 1) := by decide +kernel
theorem zd_X_finish_27 : decode zc_X_finish 27 = .ok (.iload_n 1, 1) := by decide +kernel
theorem zd_X_finish_28 : decode zc_X_finish 28 = .ok (.bipush 16, 2) := by decide +kernel
theorem zd_X_finish_30 : decode zc_X_finish 30 = .ok (.iushr, 1) := by decide +kernel
theorem zd_X_finish_31 : decode zc_X_finish 31 = .ok (.ixor, 1) := by decide +kernel
theorem zd_X_finish_32 : decode zc_X_finish 32 = .ok (.istore_n 1, 1) := by decide +kernel
theorem zd_X_finish_33 : decode zc_X_finish 33 = .ok (.iload_n 1, 1) := by decide +kernel
theorem zd_X_finish_34 : decode zc_X_finish 34 = .ok (.ireturn, 1) := by decide +kernel
theorem zd_X_turnLeft_0 : decode zc_X_turnLeft 0 = .ok (.iload_n 0, 1) := by decide +kernel
theorem zd_X_turnLeft_1 : decode zc_X_turnLeft 1 = .ok (.iload_n 1, 1) := by decide +kernel
theorem zd_X_turnLeft_2 : decode zc_X_turnLeft 2 = .ok (.ishl, 1) := by decide +kernel
theorem zd_X_turnLeft_3 : decode zc_X_turnLeft 3 = .ok (.iload_n 0, 1) := by decide +kernel
theorem zd_X_turnLeft_4 : decode zc_X_turnLeft 4 = .ok (.bipush 32, 2) := by decide +kernel
theorem zd_X_turnLeft_6 : decode zc_X_turnLeft 6 = .ok (.iload_n 1, 1) := by decide +kernel
theorem zd_X_turnLeft_7 : decode zc_X_turnLeft 7 = .ok (.isub, 1) := by decide +kernel
theorem zd_X_turnLeft_8 : decode zc_X_turnLeft 8 = .ok (.iushr, 1) := by decide +kernel
theorem zd_X_turnLeft_9 : decode zc_X_turnLeft 9 = .ok (.ior, 1) := by decide +kernel
theorem zd_X_turnLeft_10 : decode zc_X_turnLeft 10 = .ok (.ireturn, 1) := by decide +kernel
theorem zd_M_thrown_0 : decode zc_M_thrown 0 = .ok (.aload_n 0, 1) := by decide +kernel
theorem zd_M_thrown_1 : decode zc_M_thrown 1 = .ok (.getfield 22, 3) := by decide +kernel
theorem zd_M_thrown_4 : decode zc_M_thrown 4 = .ok (.ireturn, 1) := by decide +kernel
theorem zd_M_fails_0 : decode zc_M_fails 0 = .ok (.aload_n 0, 1) := by decide +kernel
theorem zd_M_fails_1 : decode zc_M_fails 1 = .ok (.iload_n 1, 1) := by decide +kernel
theorem zd_M_fails_2 : decode zc_M_fails 2 = .ok (.ifCond .eq 7, 3) := by decide +kernel
theorem zd_M_fails_5 : decode zc_M_fails 5 = .ok (.iconst 1, 1) := by decide +kernel
theorem zd_M_fails_6 : decode zc_M_fails 6 = .ok (.goto 12, 3) := by decide +kernel
theorem zd_M_fails_9 : decode zc_M_fails 9 = .ok (.iload_n 2, 1) := by decide +kernel
theorem zd_M_fails_10 : decode zc_M_fails 10 = .ok (.ifCond .eq 7, 3) := by decide +kernel
theorem zd_M_fails_13 : decode zc_M_fails 13 = .ok (.iconst 2, 1) := by decide +kernel
theorem zd_M_fails_14 : decode zc_M_fails 14 = .ok (.goto 4, 3) := by decide +kernel
theorem zd_M_fails_17 : decode zc_M_fails 17 = .ok (.iconst 0, 1) := by decide +kernel
theorem zd_M_fails_18 : decode zc_M_fails 18 = .ok (.putfield 22, 3) := by decide +kernel
theorem zd_M_fails_21 : decode zc_M_fails 21 = .ok (.aload_n 0, 1) := by decide +kernel
theorem zd_M_fails_22 : decode zc_M_fails 22 = .ok (.getfield 22, 3) := by decide +kernel
theorem zd_M_fails_25 : decode zc_M_fails 25 = .ok (.ifCond .le 7, 3) := by decide +kernel
theorem zd_M_fails_28 : decode zc_M_fails 28 = .ok (.iconst 1, 1) := by decide +kernel
theorem zd_M_fails_29 : decode zc_M_fails 29 = .ok (.goto 4, 3) := by decide +kernel
theorem zd_M_fails_32 : decode zc_M_fails 32 = .ok (.iconst 0, 1) := by decide +kernel
theorem zd_M_fails_33 : decode zc_M_fails 33 = .ok (.ireturn, 1) := by decide +kernel
theorem zd_M_isRow_0 : decode zc_M_isRow 0 = .ok (.iload_n 0, 1) := by decide +kernel
theorem zd_M_isRow_1 : decode zc_M_isRow 1 = .ok (.ifCond .lt 12, 3) := by decide +kernel
theorem zd_M_isRow_4 : decode zc_M_isRow 4 = .ok (.iload_n 0, 1) := by decide +kernel
theorem zd_M_isRow_5 : decode zc_M_isRow 5 = .ok (.iconst 3, 1) := by decide +kernel
theorem zd_M_isRow_6 : decode zc_M_isRow 6 = .ok (.if_icmp .ge 7, 3) := by decide +kernel
theorem zd_M_isRow_9 : decode zc_M_isRow 9 = .ok (.iconst 1, 1) := by decide +kernel
theorem zd_M_isRow_10 : decode zc_M_isRow 10 = .ok (.goto 4, 3) := by decide +kernel
theorem zd_M_isRow_13 : decode zc_M_isRow 13 = .ok (.iconst 0, 1) := by decide +kernel
theorem zd_M_isRow_14 : decode zc_M_isRow 14 = .ok (.ireturn, 1) := by decide +kernel
theorem zd_M_most_0 : decode zc_M_most 0 = .ok (.iload_n 0, 1) := by decide +kernel
theorem zd_M_most_1 : decode zc_M_most 1 = .ok (.ifCond .ne 9, 3) := by decide +kernel
theorem zd_M_most_4 : decode zc_M_most 4 = .ok (.sipush 160, 3) := by decide +kernel
theorem zd_M_most_7 : decode zc_M_most 7 = .ok (.goto 16, 3) := by decide +kernel
theorem zd_M_most_10 : decode zc_M_most 10 = .ok (.iload_n 0, 1) := by decide +kernel
theorem zd_M_most_11 : decode zc_M_most 11 = .ok (.iconst 1, 1) := by decide +kernel
theorem zd_M_most_12 : decode zc_M_most 12 = .ok (.if_icmp .ne 9, 3) := by decide +kernel
theorem zd_M_most_15 : decode zc_M_most 15 = .ok (.sipush 200, 3) := by decide +kernel
theorem zd_M_most_18 : decode zc_M_most 18 = .ok (.goto 5, 3) := by decide +kernel
theorem zd_M_most_21 : decode zc_M_most 21 = .ok (.bipush 64, 2) := by decide +kernel
theorem zd_M_most_23 : decode zc_M_most 23 = .ok (.ireturn, 1) := by decide +kernel
theorem zd_M_put_0 : decode zc_M_put 0 = .ok (.iload_n 1, 1) := by decide +kernel
theorem zd_M_put_1 : decode zc_M_put 1 = .ok (.invokestatic 26, 3) := by decide +kernel
theorem zd_M_put_4 : decode zc_M_put 4 = .ok (.ifCond .eq 16, 3) := by decide +kernel
theorem zd_M_put_7 : decode zc_M_put 7 = .ok (.iload 4, 2) := by decide +kernel
