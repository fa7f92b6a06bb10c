theorem zd_ER_readAll_0 : decode zc_ER_readAll 0 = .ok (.aload_n 0, 1) := by decide +kernel
theorem zd_ER_readAll_1 : decode zc_ER_readAll 1 = .ok (.aload_n 0, 1) := by decide +kernel
theorem zd_ER_readAll_2 : decode zc_ER_readAll 2 = .ok (.invokevirtual 9, 3) := by decide +kernel
theorem zd_ER_readAll_5 : decode zc_ER_readAll 5 = .ok (.putfield 15, 3) := by decide +kernel
theorem zd_ER_readAll_8 : decode zc_ER_readAll 8 = .ok (.iconst 0, 1) := by decide +kernel
theorem zd_ER_readAll_9 : decode zc_ER_readAll 9 = .ok (.istore_n 1, 1) := by decide +kernel
theorem zd_ER_readAll_10 : decode zc_ER_readAll 10 = .ok (.iload_n 1, 1) := by decide +kernel
theorem zd_ER_readAll_11 : decode zc_ER_readAll 11 = .ok (.aload_n 0, 1) := by decide +kernel
theorem zd_ER_readAll_12 : decode zc_ER_readAll 12 = .ok (.getfield 19, 3) := by decide +kernel
theorem zd_ER_readAll_15 : decode zc_ER_readAll 15 = .ok (.getfield 23, 3) := by decide +kernel
theorem zd_ER_readAll_18 : decode zc_ER_readAll 18 = .ok (.if_icmp .ge 27, 3) := by decide +kernel
theorem zd_ER_readAll_21 : decode zc_ER_readAll 21 = .ok (.aload_n 0, 1) := by decide +kernel
theorem zd_ER_readAll_22 : decode zc_ER_readAll 22 = .ok (.invokevirtual 28, 3) := by decide +kernel
theorem zd_ER_readAll_25 : decode zc_ER_readAll 25 = .ok (.ifCond .ne 20, 3) := by decide +kernel
theorem zd_ER_readAll_28 : decode zc_ER_readAll 28 = .ok (.aload_n 0, 1) := by decide +kernel
theorem zd_ER_readAll_29 : decode zc_ER_readAll 29 = .ok (.invokevirtual 32, 3) := by decide +kernel
theorem zd_ER_readAll_32 : decode zc_ER_readAll 32 = .ok (.ifCond .ne 13, 3) := by decide +kernel
theorem zd_ER_readAll_35 : decode zc_ER_readAll 35 = .ok (.aload_n 0, 1) := by decide +kernel
theorem zd_ER_readAll_36 : decode zc_ER_readAll 36 = .ok (.invokevirtual 35, 3) := by decide +kernel
theorem zd_ER_readAll_39 : decode zc_ER_readAll 39 = .ok (.iinc 1 1, 3) := by decide +kernel
theorem zd_ER_readAll_42 : decode zc_ER_readAll 42 = .ok (.goto (-32), 3) := by decide +kernel
theorem zd_ER_readAll_45 : decode zc_ER_readAll 45 = .ok (.aload_n 0, 1) := by decide +kernel
theorem zd_ER_readAll_46 : decode zc_ER_readAll 46 = .ok (.aload_n 0, 1) := by decide +kernel
theorem zd_ER_readAll_47 : decode zc_ER_readAll 47 = .ok (.getfield 39, 3) := by decide +kernel
theorem zd_ER_readAll_50 : decode zc_ER_readAll 50 = .ok (.getfield 23, 3) := by decide +kernel
theorem zd_ER_readAll_53 : decode zc_ER_readAll 53 = .ok (.aload_n 0, 1) := by decide +kernel
theorem zd_ER_readAll_54 : decode zc_ER_readAll 54 = .ok (.getfield 15, 3) := by decide +kernel
theorem zd_ER_readAll_57 : decode zc_ER_readAll 57 = .ok (.if_icmp .ge 7, 3) := by decide +kernel
theorem zd_ER_readAll_60 : decode zc_ER_readAll 60 = .ok (.iconst 1, 1) := by decide +kernel
theorem zd_ER_readAll_61 : decode zc_ER_readAll 61 = .ok (.goto 4, 3) := by decide +kernel
theorem zd_ER_readAll_64 : decode zc_ER_readAll 64 = .ok (.iconst 0, 1) := by decide +kernel
theorem zd_ER_readAll_65 : decode zc_ER_readAll 65 = .ok (.aload_n 0, 1) := by decide +kernel
theorem zd_ER_readAll_66 : decode zc_ER_readAll 66 = .ok (.getfield 19, 3) := by decide +kernel
theorem zd_ER_readAll_69 : decode zc_ER_readAll 69 = .ok (.getfield 23, 3) := by decide +kernel
theorem zd_ER_readAll_72 : decode zc_ER_readAll 72 = .ok (.invokevirtual 42, 3) := by decide +kernel
theorem zd_ER_readAll_75 : decode zc_ER_readAll 75 = .ok (.return_, 1) := by decide +kernel
theorem zd_ER_takeSize_0 : decode zc_ER_takeSize 0 = .ok (.aload_n 0, 1) := by decide +kernel
theorem zd_ER_takeSize_1 : decode zc_ER_takeSize 1 = .ok (.invokevirtual 46, 3) := by decide +kernel
theorem zd_ER_takeSize_4 : decode zc_ER_takeSize 4 = .ok (.istore_n 1, 1) := by decide +kernel
theorem zd_ER_takeSize_5 : decode zc_ER_takeSize 5 = .ok (.iload_n 1, 1) := by decide +kernel
theorem zd_ER_takeSize_6 : decode zc_ER_takeSize 6 = .ok (.bipush 127, 2) := by decide +kernel
theorem zd_ER_takeSize_8 : decode zc_ER_takeSize 8 = .ok (.if_icmp .gt 5, 3) := by decide +kernel
theorem zd_ER_takeSize_11 : decode zc_ER_takeSize 11 = .ok (.iload_n 1, 1) := by decide +kernel
theorem zd_ER_takeSize_12 : decode zc_ER_takeSize 12 = .ok (.ireturn, 1) := by decide +kernel
theorem zd_ER_takeSize_13 : decode zc_ER_takeSize 13 = .ok (.aload_n 0, 1) := by decide +kernel
theorem zd_ER_takeSize_14 : decode zc_ER_takeSize 14 = .ok (.invokevirtual 46, 3) := by decide +kernel
theorem zd_ER_takeSize_17 : decode zc_ER_takeSize 17 = .ok (.istore_n 2, 1) := by decide +kernel
theorem zd_ER_takeSize_18 : decode zc_ER_takeSize 18 = .ok (.aload_n 0, 1) := by decide +kernel
theorem zd_ER_takeSize_19 : decode zc_ER_takeSize 19 = .ok (.iload_n 2, 1) := by decide +kernel
theorem zd_ER_takeSize_20 : decode zc_ER_takeSize 20 = .ok (.bipush 127, 2) := by decide +kernel
theorem zd_ER_takeSize_22 : decode zc_ER_takeSize 22 = .ok (.if_icmp .le 7, 3) := by decide +kernel
theorem zd_ER_takeSize_25 : decode zc_ER_takeSize 25 = .ok (.iconst 1, 1) := by decide +kernel
theorem zd_ER_takeSize_26 : decode zc_ER_takeSize 26 = .ok (.goto 4, 3) := by decide +kernel
theorem zd_ER_takeSize_29 : decode zc_ER_takeSize 29 = .ok (.iconst 0, 1) := by decide +kernel
theorem zd_ER_takeSize_30 : decode zc_ER_takeSize 30 = .ok (.aload_n 0, 1) := by decide +kernel
theorem zd_ER_takeSize_31 : decode zc_ER_takeSize 31 = .ok (.getfield 49, 3) := by decide +kernel
theorem zd_ER_takeSize_34 : decode zc_ER_takeSize 34 = .ok (.iconst 1, 1) := by decide +kernel
theorem zd_ER_takeSize_35 : decode zc_ER_takeSize 35 = .ok (.isub, 1) := by decide +kernel
theorem zd_ER_takeSize_36 : decode zc_ER_takeSize 36 = .ok (.invokevirtual 42, 3) := by decide +kernel
theorem zd_ER_takeSize_39 : decode zc_ER_takeSize 39 = .ok (.iload_n 1, 1) := by decide +kernel
theorem zd_ER_takeSize_40 : decode zc_ER_takeSize 40 = .ok (.bipush 127, 2) := by decide +kernel
theorem zd_ER_takeSize_42 : decode zc_ER_takeSize 42 = .ok (.iand, 1) := by decide +kernel
theorem zd_ER_takeSize_43 : decode zc_ER_takeSize 43 = .ok (.iload_n 2, 1) := by decide +kernel
theorem zd_ER_takeSize_44 : decode zc_ER_takeSize 44 = .ok (.bipush 7, 2) := by decide +kernel
theorem zd_ER_takeSize_46 : decode zc_ER_takeSize 46 = .ok (.ishl, 1) := by decide +kernel
theorem zd_ER_takeSize_47 : decode zc_ER_takeSize 47 = .ok (.ior, 1) := by decide +kernel
theorem zd_ER_takeSize_48 : decode zc_ER_takeSize 48 = .ok (.istore_n 3, 1) := by decide +kernel
theorem zd_ER_takeSize_49 : decode zc_ER_takeSize 49 = .ok (.aload_n 0, 1) := by decide +kernel
theorem zd_ER_takeSize_50 : decode zc_ER_takeSize 50 = .ok (.iload_n 3, 1) := by decide +kernel
theorem zd_ER_takeSize_51 : decode zc_ER_takeSize 51 = .ok (.sipush 160, 3) := by decide +kernel
theorem zd_ER_takeSize_54 : decode zc_ER_takeSize 54 = .ok (.if_icmp .le 7, 3) := by decide +kernel
theorem zd_ER_takeSize_57 : decode zc_ER_takeSize 57 = .ok (.iconst 1, 1) := by decide +kernel
theorem zd_ER_takeSize_58 : decode zc_ER_takeSize 58 = .ok (.goto 4, 3) := by decide +kernel
theorem zd_ER_takeSize_61 : decode zc_ER_takeSize 61 = .ok (.iconst 0, 1) := by decide +kernel
theorem zd_ER_takeSize_62 : decode zc_ER_takeSize 62 = .ok (.aload_n 0, 1) := by decide +kernel
theorem zd_ER_takeSize_63 : decode zc_ER_takeSize 63 = .ok (.getfield 49, 3) := by decide +kernel
theorem zd_ER_takeSize_66 : decode zc_ER_takeSize 66 = .ok (.iconst 1, 1) := by decide +kernel
theorem zd_ER_takeSize_67 : decode zc_ER_takeSize 67 = .ok (.isub, 1) := by decide +kernel
theorem zd_ER_takeSize_68 : decode zc_ER_takeSize 68 = .ok (.invokevirtual 42, 3) := by decide +kernel
theorem zd_ER_takeSize_71 : decode zc_ER_takeSize 71 = .ok (.iload_n 3, 1) := by decide +kernel
theorem zd_ER_takeSize_72 : decode zc_ER_takeSize 72 = .ok (.ireturn, 1) := by decide +kernel
theorem zd_ER_readElement_0 : decode zc_ER_readElement 0 = .ok (.aload_n 0, 1) := by decide +kernel
theorem zd_ER_readElement_1 : decode zc_ER_readElement 1 = .ok (.getfield 49, 3) := by decide +kernel
theorem zd_ER_readElement_4 : decode zc_ER_readElement 4 = .ok (.istore_n 1, 1) := by decide +kernel
theorem zd_ER_readElement_5 : decode zc_ER_readElement 5 = .ok (.aload_n 0, 1) := by decide +kernel
theorem zd_ER_readElement_6 : decode zc_ER_readElement 6 = .ok (.invokevirtual 46, 3) := by decide +kernel
theorem zd_ER_readElement_9 : decode zc_ER_readElement 9 = .ok (.istore_n 2, 1) := by decide +kernel
theorem zd_ER_readElement_10 : decode zc_ER_readElement 10 = .ok (.iload_n 2, 1) := by decide +kernel
theorem zd_ER_readElement_11 : decode zc_ER_readElement 11 = .ok (.iconst 3, 1) := by decide +kernel
theorem zd_ER_readElement_12 : decode zc_ER_readElement 12 = .ok (.iand, 1) := by decide +kernel
theorem zd_ER_readElement_13 : decode zc_ER_readElement 13 = .ok (.tableswitch 56 0 2 #[27, 38, 47], 27) := by decide +kernel
theorem zd_ER_readElement_40 : decode zc_ER_readElement 40 = .ok (.aload_n 0, 1) := by decide +kernel
theorem zd_ER_readElement_41 : decode zc_ER_readElement 41 = .ok (.iload_n 2, 1) := by decide +kernel
theorem zd_ER_readElement_42 : decode zc_ER_readElement 42 = .ok (.iconst 2, 1) := by decide +kernel
theorem zd_ER_readElement_43 : decode zc_ER_readElement 43 = .ok (.ishr, 1) := by decide +kernel
theorem zd_ER_readElement_44 : decode zc_ER_readElement 44 = .ok (.iload_n 1, 1) := by decide +kernel
theorem zd_ER_readElement_45 : decode zc_ER_readElement 45 = .ok (.invokevirtual 52, 3) := by decide +kernel
theorem zd_ER_readElement_48 : decode zc_ER_readElement 48 = .ok (.goto 27, 3) := by decide +kernel
theorem zd_ER_readElement_51 : decode zc_ER_readElement 51 = .ok (.aload_n 0, 1) := by decide +kernel
theorem zd_ER_readElement_52 : decode zc_ER_readElement 52 = .ok (.iload_n 2, 1) := by decide +kernel
theorem zd_ER_readElement_53 : decode zc_ER_readElement 53 = .ok (.iload_n 1, 1) := by decide +kernel
theorem zd_ER_readElement_54 : decode zc_ER_readElement 54 = .ok (.invokevirtual 56, 3) := by decide +kernel
theorem zd_ER_readElement_57 : decode zc_ER_readElement 57 = .ok (.goto 18, 3) := by decide +kernel
theorem zd_ER_readElement_60 : decode zc_ER_readElement 60 = .ok (.aload_n 0, 1) := by decide +kernel
theorem zd_ER_readElement_61 : decode zc_ER_readElement 61 = .ok (.iload_n 2, 1) := by decide +kernel
theorem zd_ER_readElement_62 : decode zc_ER_readElement 62 = .ok (.iload_n 1, 1) := by decide +kernel
theorem zd_ER_readElement_63 : decode zc_ER_readElement 63 = .ok (.invokevirtual 59, 3) := by decide +kernel
theorem zd_ER_readElement_66 : decode zc_ER_readElement 66 = .ok (.goto 9, 3) := by decide +kernel
theorem zd_ER_readElement_69 : decode zc_ER_readElement 69 = .ok (.aload_n 0, 1) := by decide +kernel
theorem zd_ER_readElement_70 : decode zc_ER_readElement 70 = .ok (.iconst 1, 1) := by decide +kernel
theorem zd_ER_readElement_71 : decode zc_ER_readElement 71 = .ok (.iload_n 1, 1) := by decide +kernel
theorem zd_ER_readElement_72 : decode zc_ER_readElement 72 = .ok (.invokevirtual 42, 3) := by decide +kernel
theorem zd_ER_readElement_75 : decode zc_ER_readElement 75 = .ok (.return_, 1) := by decide +kernel
theorem zd_ER_readLiterals_0 : decode zc_ER_readLiterals 0 = .ok (.aload_n 0, 1) := by decide +kernel
theorem zd_ER_readLiterals_1 : decode zc_ER_readLiterals 1 = .ok (.iload_n 1, 1) := by decide +kernel
theorem zd_ER_readLiterals_2 : decode zc_ER_readLiterals 2 = .ok (.bipush 60, 2) := by decide +kernel
theorem zd_ER_readLiterals_4 : decode zc_ER_readLiterals 4 = .ok (.if_icmp .le 7, 3) := by decide +kernel
theorem zd_ER_readLiterals_7 : decode zc_ER_readLiterals 7 = .ok (.iconst 1, 1) := by decide +kernel
theorem zd_ER_readLiterals_8 : decode zc_ER_readLiterals 8 = .ok (.goto 4, 3) := by decide +kernel
theorem zd_ER_readLiterals_11 : decode zc_ER_readLiterals 11 = .ok (.iconst 0, 1) := by decide +kernel
theorem zd_ER_readLiterals_12 : decode zc_ER_readLiterals 12 = .ok (.iload_n 2, 1) := by decide +kernel
theorem zd_ER_readLiterals_13 : decode zc_ER_readLiterals 13 = .ok (.invokevirtual 42, 3) := by decide +kernel
theorem zd_ER_readLiterals_16 : decode zc_ER_readLiterals 16 = .ok (.iload_n 1, 1) := by decide +kernel
theorem zd_ER_readLiterals_17 : decode zc_ER_readLiterals 17 = .ok (.bipush 60, 2) := by decide +kernel
theorem zd_ER_readLiterals_19 : decode zc_ER_readLiterals 19 = .ok (.if_icmp .ne 10, 3) := by decide +kernel
theorem zd_ER_readLiterals_22 : decode zc_ER_readLiterals 22 = .ok (.aload_n 0, 1) := by decide +kernel
theorem zd_ER_readLiterals_23 : decode zc_ER_readLiterals 23 = .ok (.invokevirtual 46, 3) := by decide +kernel
theorem zd_ER_readLiterals_26 : decode zc_ER_readLiterals 26 = .ok (.goto 4, 3) := by decide +kernel
theorem zd_ER_readLiterals_29 : decode zc_ER_readLiterals 29 = .ok (.iload_n 1, 1) := by decide +kernel
theorem zd_ER_readLiterals_30 : decode zc_ER_readLiterals 30 = .ok (.istore_n 3, 1) := by decide +kernel
theorem zd_ER_readLiterals_31 : decode zc_ER_readLiterals 31 = .ok (.aload_n 0, 1) := by decide +kernel
theorem zd_ER_readLiterals_32 : decode zc_ER_readLiterals 32 = .ok (.iload_n 3, 1) := by decide +kernel
theorem zd_ER_readLiterals_33 : decode zc_ER_readLiterals 33 = .ok (.iconst 1, 1) := by decide +kernel
theorem zd_ER_readLiterals_34 : decode zc_ER_readLiterals 34 = .ok (.iadd, 1) := by decide +kernel
theorem zd_ER_readLiterals_35 : decode zc_ER_readLiterals 35 = .ok (.aload_n 0, 1) := by decide +kernel
theorem zd_ER_readLiterals_36 : decode zc_ER_readLiterals 36 = .ok (.getfield 15, 3) := by decide +kernel
theorem zd_ER_readLiterals_39 : decode zc_ER_readLiterals 39 = .ok (.iload_n 2, 1) := by decide +kernel
theorem zd_ER_readLiterals_40 : decode zc_ER_readLiterals 40 = .ok (.invokevirtual 62, 3) := by decide +kernel
theorem zd_ER_readLiterals_43 : decode zc_ER_readLiterals 43 = .ok (.aload_n 0, 1) := by decide +kernel
theorem zd_ER_readLiterals_44 : decode zc_ER_readLiterals 44 = .ok (.iload_n 3, 1) := by decide +kernel
theorem zd_ER_readLiterals_45 : decode zc_ER_readLiterals 45 = .ok (.iconst 1, 1) := by decide +kernel
theorem zd_ER_readLiterals_46 : decode zc_ER_readLiterals 46 = .ok (.iadd, 1) := by decide +kernel
theorem zd_ER_readLiterals_47 : decode zc_ER_readLiterals 47 = .ok (.invokevirtual 66, 3) := by decide +kernel
theorem zd_ER_readLiterals_50 : decode zc_ER_readLiterals 50 = .ok (.return_, 1) := by decide +kernel
theorem zd_ER_readShortCopy_0 : decode zc_ER_readShortCopy 0 = .ok (.iload_n 1, 1) := by decide +kernel
theorem zd_ER_readShortCopy_1 : decode zc_ER_readShortCopy 1 = .ok (.iconst 5, 1) := by decide +kernel
theorem zd_ER_readShortCopy_2 : decode zc_ER_readShortCopy 2 = .ok (.ishr, 1) := by decide +kernel
theorem zd_ER_readShortCopy_3 : decode zc_ER_readShortCopy 3 = .ok (.sipush 256, 3) := by decide +kernel
theorem zd_ER_readShortCopy_6 : decode zc_ER_readShortCopy 6 = .ok (.imul, 1) := by decide +kernel
theorem zd_ER_readShortCopy_7 : decode zc_ER_readShortCopy 7 = .ok (.aload_n 0, 1) := by decide +kernel
theorem zd_ER_readShortCopy_8 : decode zc_ER_readShortCopy 8 = .ok (.invokevirtual 46, 3) := by decide +kernel
theorem zd_ER_readShortCopy_11 : decode zc_ER_readShortCopy 11 = .ok (.iadd, 1) := by decide +kernel
theorem zd_ER_readShortCopy_12 : decode zc_ER_readShortCopy 12 = .ok (.istore_n 3, 1) := by decide +kernel
theorem zd_ER_readShortCopy_13 : decode zc_ER_readShortCopy 13 = .ok (.aload_n 0, 1) := by decide +kernel
theorem zd_ER_readShortCopy_14 : decode zc_ER_readShortCopy 14 = .ok (.iload_n 3, 1) := by decide +kernel
theorem zd_ER_readShortCopy_15 : decode zc_ER_readShortCopy 15 = .ok (.iload_n 2, 1) := by decide +kernel
theorem zd_ER_readShortCopy_16 : decode zc_ER_readShortCopy 16 = .ok (.invokevirtual 70, 3) := by decide +kernel
theorem zd_ER_readShortCopy_19 : decode zc_ER_readShortCopy 19 = .ok (.iload_n 1, 1) := by decide +kernel
theorem zd_ER_readShortCopy_20 : decode zc_ER_readShortCopy 20 = .ok (.iconst 2, 1) := by decide +kernel
theorem zd_ER_readShortCopy_21 : decode zc_ER_readShortCopy 21 = .ok (.ishr, 1) := by decide +kernel
theorem zd_ER_readShortCopy_22 : decode zc_ER_readShortCopy 22 = .ok (.bipush 7, 2) := by decide +kernel
theorem zd_ER_readShortCopy_24 : decode zc_ER_readShortCopy 24 = .ok (.iand, 1) := by decide +kernel
theorem zd_ER_readShortCopy_25 : decode zc_ER_readShortCopy 25 = .ok (.iconst 4, 1) := by decide +kernel
theorem zd_ER_readShortCopy_26 : decode zc_ER_readShortCopy 26 = .ok (.iadd, 1) := by decide +kernel
theorem zd_ER_readShortCopy_27 : decode zc_ER_readShortCopy 27 = .ok (.istore 4, 2) := by decide +kernel
theorem zd_ER_readShortCopy_29 : decode zc_ER_readShortCopy 29 = .ok (.aload_n 0, 1) := by decide +kernel
theorem zd_ER_readShortCopy_30 : decode zc_ER_readShortCopy 30 = .ok (.iload 4, 2) := by decide +kernel
theorem zd_ER_readShortCopy_32 : decode zc_ER_readShortCopy 32 = .ok (.aload_n 0, 1) := by decide +kernel
theorem zd_ER_readShortCopy_33 : decode zc_ER_readShortCopy 33 = .ok (.getfield 15, 3) := by decide +kernel
theorem zd_ER_readShortCopy_36 : decode zc_ER_readShortCopy 36 = .ok (.iload_n 2, 1) := by decide +kernel
theorem zd_ER_readShortCopy_37 : decode zc_ER_readShortCopy 37 = .ok (.invokevirtual 62, 3) := by decide +kernel
theorem zd_ER_readShortCopy_40 : decode zc_ER_readShortCopy 40 = .ok (.aload_n 0, 1) := by decide +kernel
theorem zd_ER_readShortCopy_41 : decode zc_ER_readShortCopy 41 = .ok (.iload_n 3, 1) := by decide +kernel
theorem zd_ER_readShortCopy_42 : decode zc_ER_readShortCopy 42 = .ok (.iload 4, 2) := by decide +kernel
theorem zd_ER_readShortCopy_44 : decode zc_ER_readShortCopy 44 = .ok (.invokevirtual 73, 3) := by decide +kernel
theorem zd_ER_readShortCopy_47 : decode zc_ER_readShortCopy 47 = .ok (.return_, 1) := by decide +kernel
theorem zd_ER_readLongCopy_0 : decode zc_ER_readLongCopy 0 = .ok (.aload_n 0, 1) := by decide +kernel
theorem zd_ER_readLongCopy_1 : decode zc_ER_readLongCopy 1 = .ok (.invokevirtual 76, 3) := by decide +kernel
theorem zd_ER_readLongCopy_4 : decode zc_ER_readLongCopy 4 = .ok (.istore_n 3, 1) := by decide +kernel
theorem zd_ER_readLongCopy_5 : decode zc_ER_readLongCopy 5 = .ok (.aload_n 0, 1) := by decide +kernel
theorem zd_ER_readLongCopy_6 : decode zc_ER_readLongCopy 6 = .ok (.iload_n 3, 1) := by decide +kernel
theorem zd_ER_readLongCopy_7 : decode zc_ER_readLongCopy 7 = .ok (.iload_n 2, 1) := by decide +kernel
theorem zd_ER_readLongCopy_8 : decode zc_ER_readLongCopy 8 = .ok (.iconst 1, 1) := by decide +kernel
theorem zd_ER_readLongCopy_9 : decode zc_ER_readLongCopy 9 = .ok (.iadd, 1) := by decide +kernel
theorem zd_ER_readLongCopy_10 : decode zc_ER_readLongCopy 10 = .ok (.invokevirtual 70, 3) := by decide +kernel
theorem zd_ER_readLongCopy_13 : decode zc_ER_readLongCopy 13 = .ok (.iload_n 1, 1) := by decide +kernel
theorem zd_ER_readLongCopy_14 : decode zc_ER_readLongCopy 14 = .ok (.iconst 2, 1) := by decide +kernel
theorem zd_ER_readLongCopy_15 : decode zc_ER_readLongCopy 15 = .ok (.ishr, 1) := by decide +kernel
theorem zd_ER_readLongCopy_16 : decode zc_ER_readLongCopy 16 = .ok (.iconst 1, 1) := by decide +kernel
theorem zd_ER_readLongCopy_17 : decode zc_ER_readLongCopy 17 = .ok (.iadd, 1) := by decide +kernel
theorem zd_ER_readLongCopy_18 : decode zc_ER_readLongCopy 18 = .ok (.istore 4, 2) := by decide +kernel
theorem zd_ER_readLongCopy_20 : decode zc_ER_readLongCopy 20 = .ok (.aload_n 0, 1) := by decide +kernel
theorem zd_ER_readLongCopy_21 : decode zc_ER_readLongCopy 21 = .ok (.iload 4, 2) := by decide +kernel
theorem zd_ER_readLongCopy_23 : decode zc_ER_readLongCopy 23 = .ok (.aload_n 0, 1) := by decide +kernel
theorem zd_ER_readLongCopy_24 : decode zc_ER_readLongCopy 24 = .ok (.getfield 15, 3) := by decide +kernel
theorem zd_ER_readLongCopy_27 : decode zc_ER_readLongCopy 27 = .ok (.iload_n 2, 1) := by decide +kernel
theorem zd_ER_readLongCopy_28 : decode zc_ER_readLongCopy 28 = .ok (.invokevirtual 62, 3) := by decide +kernel
theorem zd_ER_readLongCopy_31 : decode zc_ER_readLongCopy 31 = .ok (.aload_n 0, 1) := by decide +kernel
theorem zd_ER_readLongCopy_32 : decode zc_ER_readLongCopy 32 = .ok (.iload_n 3, 1) := by decide +kernel
theorem zd_ER_readLongCopy_33 : decode zc_ER_readLongCopy 33 = .ok (.iload 4, 2) := by decide +kernel
theorem zd_ER_readLongCopy_35 : decode zc_ER_readLongCopy 35 = .ok (.invokevirtual 73, 3) := by decide +kernel
theorem zd_ER_readLongCopy_38 : decode zc_ER_readLongCopy 38 = .ok (.return_, 1) := by decide +kernel
theorem zd_EW_begin_0 : decode zc_EW_begin 0 = .ok (.aload_n 0, 1) := by decide +kernel
theorem zd_EW_begin_1 : decode zc_EW_begin 1 = .ok (.getfield 7, 3) := by decide +kernel
theorem zd_EW_begin_4 : decode zc_EW_begin 4 = .ok (.invokevirtual 13, 3) := by decide +kernel
theorem zd_EW_begin_7 : decode zc_EW_begin 7 = .ok (.aload_n 0, 1) := by decide +kernel
theorem zd_EW_begin_8 : decode zc_EW_begin 8 = .ok (.getfield 19, 3) := by decide +kernel
theorem zd_EW_begin_11 : decode zc_EW_begin 11 = .ok (.getfield 22, 3) := by decide +kernel
theorem zd_EW_begin_14 : decode zc_EW_begin 14 = .ok (.istore_n 1, 1) := by decide +kernel
theorem zd_EW_begin_15 : decode zc_EW_begin 15 = .ok (.iload_n 1, 1) := by decide +kernel
theorem zd_EW_begin_16 : decode zc_EW_begin 16 = .ok (.bipush 127, 2) := by decide +kernel
theorem zd_EW_begin_18 : decode zc_EW_begin 18 = .ok (.if_icmp .le 26, 3) := by decide +kernel
theorem zd_EW_begin_21 : decode zc_EW_begin 21 = .ok (.aload_n 0, 1) := by decide +kernel
theorem zd_EW_begin_22 : decode zc_EW_begin 22 = .ok (.getfield 7, 3) := by decide +kernel
theorem zd_EW_begin_25 : decode zc_EW_begin 25 = .ok (.iload_n 1, 1) := by decide +kernel
theorem zd_EW_begin_26 : decode zc_EW_begin 26 = .ok (.bipush 127, 2) := by decide +kernel
theorem zd_EW_begin_28 : decode zc_EW_begin 28 = .ok (.iand, 1) := by decide +kernel
theorem zd_EW_begin_29 : decode zc_EW_begin 29 = .ok (.sipush 128, 3) := by decide +kernel
theorem zd_EW_begin_32 : decode zc_EW_begin 32 = .ok (.ior, 1) := by decide +kernel
theorem zd_EW_begin_33 : decode zc_EW_begin 33 = .ok (.invokevirtual 26, 3) := by decide +kernel
theorem zd_EW_begin_36 : decode zc_EW_begin 36 = .ok (.iload_n 1, 1) := by decide +kernel
theorem zd_EW_begin_37 : decode zc_EW_begin 37 = .ok (.bipush 7, 2) := by decide +kernel
theorem zd_EW_begin_39 : decode zc_EW_begin 39 = .ok (.iushr, 1) := by decide +kernel
theorem zd_EW_begin_40 : decode zc_EW_begin 40 = .ok (.istore_n 1, 1) := by decide +kernel
theorem zd_EW_begin_41 : decode zc_EW_begin 41 = .ok (.goto (-26), 3) := by decide +kernel
theorem zd_EW_begin_44 : decode zc_EW_begin 44 = .ok (.aload_n 0, 1) := by decide +kernel
theorem zd_EW_begin_45 : decode zc_EW_begin 45 = .ok (.getfield 7, 3) := by decide +kernel
theorem zd_EW_begin_48 : decode zc_EW_begin 48 = .ok (.iload_n 1, 1) := by decide +kernel
theorem zd_EW_begin_49 : decode zc_EW_begin 49 = .ok (.invokevirtual 26, 3) := by decide +kernel
theorem zd_EW_begin_52 : decode zc_EW_begin 52 = .ok (.return_, 1) := by decide +kernel
theorem zd_EW_match_0 : decode zc_EW_match 0 = .ok (.aload_n 0, 1) := by decide +kernel
theorem zd_EW_match_1 : decode zc_EW_match 1 = .ok (.iload_n 1, 1) := by decide +kernel
theorem zd_EW_match_2 : decode zc_EW_match 2 = .ok (.iload_n 2, 1) := by decide +kernel
theorem zd_EW_match_3 : decode zc_EW_match 3 = .ok (.invokevirtual 30, 3) := by decide +kernel
theorem zd_EW_match_6 : decode zc_EW_match 6 = .ok (.iload 4, 2) := by decide +kernel
theorem zd_EW_match_8 : decode zc_EW_match 8 = .ok (.istore 5, 2) := by decide +kernel
theorem zd_EW_match_10 : decode zc_EW_match 10 = .ok (.iload 5, 2) := by decide +kernel
theorem zd_EW_match_12 : decode zc_EW_match 12 = .ok (.bipush 68, 2) := by decide +kernel
theorem zd_EW_match_14 : decode zc_EW_match 14 = .ok (.if_icmp .lt 16, 3) := by decide +kernel
theorem zd_EW_match_17 : decode zc_EW_match 17 = .ok (.aload_n 0, 1) := by decide +kernel
theorem zd_EW_match_18 : decode zc_EW_match 18 = .ok (.iload_n 3, 1) := by decide +kernel
theorem zd_EW_match_19 : decode zc_EW_match 19 = .ok (.bipush 64, 2) := by decide +kernel
theorem zd_EW_match_21 : decode zc_EW_match 21 = .ok (.invokevirtual 34, 3) := by decide +kernel
theorem zd_EW_match_24 : decode zc_EW_match 24 = .ok (.iinc 5 (-64), 3) := by decide +kernel
theorem zd_EW_match_27 : decode zc_EW_match 27 = .ok (.goto (-17), 3) := by decide +kernel
theorem zd_EW_match_30 : decode zc_EW_match 30 = .ok (.iload 5, 2) := by decide +kernel
theorem zd_EW_match_32 : decode zc_EW_match 32 = .ok (.bipush 64, 2) := by decide +kernel
theorem zd_EW_match_34 : decode zc_EW_match 34 = .ok (.if_icmp .le 13, 3) := by decide +kernel
theorem zd_EW_match_37 : decode zc_EW_match 37 = .ok (.aload_n 0, 1) := by decide +kernel
theorem zd_EW_match_38 : decode zc_EW_match 38 = .ok (.iload_n 3, 1) := by decide +kernel
theorem zd_EW_match_39 : decode zc_EW_match 39 = .ok (.bipush 60, 2) := by decide +kernel
theorem zd_EW_match_41 : decode zc_EW_match 41 = .ok (.invokevirtual 34, 3) := by decide +kernel
theorem zd_EW_match_44 : decode zc_EW_match 44 = .ok (.iinc 5 (-60), 3) := by decide +kernel
theorem zd_EW_match_47 : decode zc_EW_match 47 = .ok (.aload_n 0, 1) := by decide +kernel
theorem zd_EW_match_48 : decode zc_EW_match 48 = .ok (.iload_n 3, 1) := by decide +kernel
theorem zd_EW_match_49 : decode zc_EW_match 49 = .ok (.iload 5, 2) := by decide +kernel
theorem zd_EW_match_51 : decode zc_EW_match 51 = .ok (.invokevirtual 37, 3) := by decide +kernel
theorem zd_EW_match_54 : decode zc_EW_match 54 = .ok (.return_, 1) := by decide +kernel
theorem zd_EW_end_0 : decode zc_EW_end 0 = .ok (.aload_n 0, 1) := by decide +kernel
theorem zd_EW_end_1 : decode zc_EW_end 1 = .ok (.iload_n 1, 1) := by decide +kernel
theorem zd_EW_end_2 : decode zc_EW_end 2 = .ok (.aload_n 0, 1) := by decide +kernel
theorem zd_EW_end_3 : decode zc_EW_end 3 = .ok (.getfield 19, 3) := by decide +kernel
theorem zd_EW_end_6 : decode zc_EW_end 6 = .ok (.getfield 22, 3) := by decide +kernel
theorem zd_EW_end_9 : decode zc_EW_end 9 = .ok (.invokevirtual 30, 3) := by decide +kernel
theorem zd_EW_end_12 : decode zc_EW_end 12 = .ok (.return_, 1) := by decide +kernel
theorem zd_EW_writeLiterals_0 : decode zc_EW_writeLiterals 0 = .ok (.iload_n 1, 1) := by decide +kernel
theorem zd_EW_writeLiterals_1 : decode zc_EW_writeLiterals 1 = .ok (.iload_n 2, 1) := by decide +kernel
theorem zd_EW_writeLiterals_2 : decode zc_EW_writeLiterals 2 = .ok (.if_icmp .lt 4, 3) := by decide +kernel
theorem zd_EW_writeLiterals_5 : decode zc_EW_writeLiterals 5 = .ok (.return_, 1) := by decide +kernel
theorem zd_EW_writeLiterals_6 : decode zc_EW_writeLiterals 6 = .ok (.iload_n 2, 1) := by decide +kernel
theorem zd_EW_writeLiterals_7 : decode zc_EW_writeLiterals 7 = .ok (.iload_n 1, 1) := by decide +kernel
theorem zd_EW_writeLiterals_8 : decode zc_EW_writeLiterals 8 = .ok (.isub, 1) := by decide +kernel
theorem zd_EW_writeLiterals_9 : decode zc_EW_writeLiterals 9 = .ok (.iconst 1, 1) := by decide +kernel
theorem zd_EW_writeLiterals_10 : decode zc_EW_writeLiterals 10 = .ok (.isub, 1) := by decide +kernel
theorem zd_EW_writeLiterals_11 : decode zc_EW_writeLiterals 11 = .ok (.istore_n 3, 1) := by decide +kernel
theorem zd_EW_writeLiterals_12 : decode zc_EW_writeLiterals 12 = .ok (.iload_n 3, 1) := by decide +kernel
theorem zd_EW_writeLiterals_13 : decode zc_EW_writeLiterals 13 = .ok (.bipush 60, 2) := by decide +kernel
theorem zd_EW_writeLiterals_15 : decode zc_EW_writeLiterals 15 = .ok (.if_icmp .ge 16, 3) := by decide +kernel
theorem zd_EW_writeLiterals_18 : decode zc_EW_writeLiterals 18 = .ok (.aload_n 0, 1) := by decide +kernel
theorem zd_EW_writeLiterals_19 : decode zc_EW_writeLiterals 19 = .ok (.getfield 7, 3) := by decide +kernel
theorem zd_EW_writeLiterals_22 : decode zc_EW_writeLiterals 22 = .ok (.iload_n 3, 1) := by decide +kernel
theorem zd_EW_writeLiterals_23 : decode zc_EW_writeLiterals 23 = .ok (.iconst 2, 1) := by decide +kernel
theorem zd_EW_writeLiterals_24 : decode zc_EW_writeLiterals 24 = .ok (.ishl, 1) := by decide +kernel
theorem zd_EW_writeLiterals_25 : decode zc_EW_writeLiterals 25 = .ok (.invokevirtual 26, 3) := by decide +kernel
theorem zd_EW_writeLiterals_28 : decode zc_EW_writeLiterals 28 = .ok (.goto 21, 3) := by decide +kernel
theorem zd_EW_writeLiterals_31 : decode zc_EW_writeLiterals 31 = .ok (.aload_n 0, 1) := by decide +kernel
theorem zd_EW_writeLiterals_32 : decode zc_EW_writeLiterals 32 = .ok (.getfield 7, 3) := by decide +kernel
theorem zd_EW_writeLiterals_35 : decode zc_EW_writeLiterals 35 = .ok (.sipush 240, 3) := by decide +kernel
theorem zd_EW_writeLiterals_38 : decode zc_EW_writeLiterals 38 = .ok (.invokevirtual 26, 3) := by decide +kernel
theorem zd_EW_writeLiterals_41 : decode zc_EW_writeLiterals 41 = .ok (.aload_n 0, 1) := by decide +kernel
theorem zd_EW_writeLiterals_42 : decode zc_EW_writeLiterals 42 = .ok (.getfield 7, 3) := by decide +kernel
theorem zd_EW_writeLiterals_45 : decode zc_EW_writeLiterals 45 = .ok (.iload_n 3, 1) := by decide +kernel
theorem zd_EW_writeLiterals_46 : decode zc_EW_writeLiterals 46 = .ok (.invokevirtual 26, 3) := by decide +kernel
theorem zd_EW_writeLiterals_49 : decode zc_EW_writeLiterals 49 = .ok (.aload_n 0, 1) := by decide +kernel
theorem zd_EW_writeLiterals_50 : decode zc_EW_writeLiterals 50 = .ok (.iload_n 1, 1) := by decide +kernel
theorem zd_EW_writeLiterals_51 : decode zc_EW_writeLiterals 51 = .ok (.iload_n 2, 1) := by decide +kernel
theorem zd_EW_writeLiterals_52 : decode zc_EW_writeLiterals 52 = .ok (.invokevirtual 40, 3) := by decide +kernel
theorem zd_EW_writeLiterals_55 : decode zc_EW_writeLiterals 55 = .ok (.return_, 1) := by decide +kernel
theorem zd_EW_writeCopy_0 : decode zc_EW_writeCopy 0 = .ok (.iload_n 2, 1) := by decide +kernel
theorem zd_EW_writeCopy_1 : decode zc_EW_writeCopy 1 = .ok (.iconst 4, 1) := by decide +kernel
theorem zd_EW_writeCopy_2 : decode zc_EW_writeCopy 2 = .ok (.if_icmp .lt 48, 3) := by decide +kernel
theorem zd_EW_writeCopy_5 : decode zc_EW_writeCopy 5 = .ok (.iload_n 2, 1) := by decide +kernel
theorem zd_EW_writeCopy_6 : decode zc_EW_writeCopy 6 = .ok (.bipush 11, 2) := by decide +kernel
theorem zd_EW_writeCopy_8 : decode zc_EW_writeCopy 8 = .ok (.if_icmp .gt 42, 3) := by decide +kernel
theorem zd_EW_writeCopy_11 : decode zc_EW_writeCopy 11 = .ok (.iload_n 1, 1) := by decide +kernel
theorem zd_EW_writeCopy_12 : decode zc_EW_writeCopy 12 = .ok (.sipush 2048, 3) := by decide +kernel
theorem zd_EW_writeCopy_15 : decode zc_EW_writeCopy 15 = .ok (.if_icmp .ge 35, 3) := by decide +kernel
theorem zd_EW_writeCopy_18 : decode zc_EW_writeCopy 18 = .ok (.aload_n 0, 1) := by decide +kernel
theorem zd_EW_writeCopy_19 : decode zc_EW_writeCopy 19 = .ok (.getfield 7, 3) := by decide +kernel
theorem zd_EW_writeCopy_22 : decode zc_EW_writeCopy 22 = .ok (.iload_n 1, 1) := by decide +kernel
theorem zd_EW_writeCopy_23 : decode zc_EW_writeCopy 23 = .ok (.bipush 8, 2) := by decide +kernel
theorem zd_EW_writeCopy_25 : decode zc_EW_writeCopy 25 = .ok (.ishr, 1) := by decide +kernel
theorem zd_EW_writeCopy_26 : decode zc_EW_writeCopy 26 = .ok (.iconst 5, 1) := by decide +kernel
theorem zd_EW_writeCopy_27 : decode zc_EW_writeCopy 27 = .ok (.ishl, 1) := by decide +kernel
theorem zd_EW_writeCopy_28 : decode zc_EW_writeCopy 28 = .ok (.iload_n 2, 1) := by decide +kernel
theorem zd_EW_writeCopy_29 : decode zc_EW_writeCopy 29 = .ok (.iconst 4, 1) := by decide +kernel
theorem zd_EW_writeCopy_30 : decode zc_EW_writeCopy 30 = .ok (.isub, 1) := by decide +kernel
theorem zd_EW_writeCopy_31 : decode zc_EW_writeCopy 31 = .ok (.iconst 2, 1) := by decide +kernel
theorem zd_EW_writeCopy_32 : decode zc_EW_writeCopy 32 = .ok (.ishl, 1) := by decide +kernel
theorem zd_EW_writeCopy_33 : decode zc_EW_writeCopy 33 = .ok (.ior, 1) := by decide +kernel
theorem zd_EW_writeCopy_34 : decode zc_EW_writeCopy 34 = .ok (.iconst 1, 1) := by decide +kernel
theorem zd_EW_writeCopy_35 : decode zc_EW_writeCopy 35 = .ok (.ior, 1) := by decide +kernel
theorem zd_EW_writeCopy_36 : decode zc_EW_writeCopy 36 = .ok (.invokevirtual 26, 3) := by decide +kernel
theorem zd_EW_writeCopy_39 : decode zc_EW_writeCopy 39 = .ok (.aload_n 0, 1) := by decide +kernel
theorem zd_EW_writeCopy_40 : decode zc_EW_writeCopy 40 = .ok (.getfield 7, 3) := by decide +kernel
theorem zd_EW_writeCopy_43 : decode zc_EW_writeCopy 43 = .ok (.iload_n 1, 1) := by decide +kernel
theorem zd_EW_writeCopy_44 : decode zc_EW_writeCopy 44 = .ok (.invokevirtual 26, 3) := by decide +kernel
theorem zd_EW_writeCopy_47 : decode zc_EW_writeCopy 47 = .ok (.goto 9, 3) := by decide +kernel
theorem zd_EW_writeCopy_50 : decode zc_EW_writeCopy 50 = .ok (.aload_n 0, 1) := by decide +kernel
theorem zd_EW_writeCopy_51 : decode zc_EW_writeCopy 51 = .ok (.iload_n 1, 1) := by decide +kernel
theorem zd_EW_writeCopy_52 : decode zc_EW_writeCopy 52 = .ok (.iload_n 2, 1) := by decide +kernel
theorem zd_EW_writeCopy_53 : decode zc_EW_writeCopy 53 = .ok (.invokevirtual 34, 3) := by decide +kernel
theorem zd_EW_writeCopy_56 : decode zc_EW_writeCopy 56 = .ok (.return_, 1) := by decide +kernel
theorem zd_EW_writeLong_0 : decode zc_EW_writeLong 0 = .ok (.aload_n 0, 1) := by decide +kernel
theorem zd_EW_writeLong_1 : decode zc_EW_writeLong 1 = .ok (.getfield 7, 3) := by decide +kernel
theorem zd_EW_writeLong_4 : decode zc_EW_writeLong 4 = .ok (.iload_n 2, 1) := by decide +kernel
theorem zd_EW_writeLong_5 : decode zc_EW_writeLong 5 = .ok (.iconst 1, 1) := by decide +kernel
theorem zd_EW_writeLong_6 : decode zc_EW_writeLong 6 = .ok (.isub, 1) := by decide +kernel
theorem zd_EW_writeLong_7 : decode zc_EW_writeLong 7 = .ok (.iconst 2, 1) := by decide +kernel
theorem zd_EW_writeLong_8 : decode zc_EW_writeLong 8 = .ok (.ishl, 1) := by decide +kernel
theorem zd_EW_writeLong_9 : decode zc_EW_writeLong 9 = .ok (.iconst 2, 1) := by decide +kernel
theorem zd_EW_writeLong_10 : decode zc_EW_writeLong 10 = .ok (.ior, 1) := by decide +kernel
theorem zd_EW_writeLong_11 : decode zc_EW_writeLong 11 = .ok (.invokevirtual 26, 3) := by decide +kernel
theorem zd_EW_writeLong_14 : decode zc_EW_writeLong 14 = .ok (.aload_n 0, 1) := by decide +kernel
theorem zd_EW_writeLong_15 : decode zc_EW_writeLong 15 = .ok (.getfield 7, 3) := by decide +kernel
theorem zd_EW_writeLong_18 : decode zc_EW_writeLong 18 = .ok (.iload_n 1, 1) := by decide +kernel
theorem zd_EW_writeLong_19 : decode zc_EW_writeLong 19 = .ok (.invokevirtual 26, 3) := by decide +kernel
theorem zd_EW_writeLong_22 : decode zc_EW_writeLong 22 = .ok (.aload_n 0, 1) := by decide +kernel
theorem zd_EW_writeLong_23 : decode zc_EW_writeLong 23 = .ok (.getfield 7, 3) := by decide +kernel
theorem zd_EW_writeLong_26 : decode zc_EW_writeLong 26 = .ok (.iload_n 1, 1) := by decide +kernel
theorem zd_EW_writeLong_27 : decode zc_EW_writeLong 27 = .ok (.bipush 8, 2) := by decide +kernel
theorem zd_EW_writeLong_29 : decode zc_EW_writeLong 29 = .ok (.ishr, 1) := by decide +kernel
theorem zd_EW_writeLong_30 : decode zc_EW_writeLong 30 = .ok (.invokevirtual 26, 3) := by decide +kernel
theorem zd_EW_writeLong_33 : decode zc_EW_writeLong 33 = .ok (.return_, 1) := by decide +kernel
theorem zd_H_length_0 : decode zc_H_length 0 = .ok (.aload_n 0, 1) := by decide +kernel
theorem zd_H_length_1 : decode zc_H_length 1 = .ok (.getfield 7, 3) := by decide +kernel
theorem zd_H_length_4 : decode zc_H_length 4 = .ok (.getfield 16, 3) := by decide +kernel
theorem zd_H_length_7 : decode zc_H_length 7 = .ok (.aload_n 0, 1) := by decide +kernel
theorem zd_H_length_8 : decode zc_H_length 8 = .ok (.getfield 13, 3) := by decide +kernel
theorem zd_H_length_11 : decode zc_H_length 11 = .ok (.getfield 16, 3) := by decide +kernel
theorem zd_H_length_14 : decode zc_H_length 14 = .ok (.iadd, 1) := by decide +kernel
theorem zd_H_length_15 : decode zc_H_length 15 = .ok (.ireturn, 1) := by decide +kernel
theorem zd_H_byteAt_0 : decode zc_H_byteAt 0 = .ok (.iload_n 1, 1) := by decide +kernel
theorem zd_H_byteAt_1 : decode zc_H_byteAt 1 = .ok (.aload_n 0, 1) := by decide +kernel
theorem zd_H_byteAt_2 : decode zc_H_byteAt 2 = .ok (.getfield 7, 3) := by decide +kernel
theorem zd_H_byteAt_5 : decode zc_H_byteAt 5 = .ok (.getfield 16, 3) := by decide +kernel
theorem zd_H_byteAt_8 : decode zc_H_byteAt 8 = .ok (.if_icmp .ge 14, 3) := by decide +kernel
theorem zd_H_byteAt_11 : decode zc_H_byteAt 11 = .ok (.aload_n 0, 1) := by decide +kernel
theorem zd_H_byteAt_12 : decode zc_H_byteAt 12 = .ok (.getfield 7, 3) := by decide +kernel
theorem zd_H_byteAt_15 : decode zc_H_byteAt 15 = .ok (.iload_n 1, 1) := by decide +kernel
theorem zd_H_byteAt_16 : decode zc_H_byteAt 16 = .ok (.invokevirtual 22, 3) := by decide +kernel
theorem zd_H_byteAt_19 : decode zc_H_byteAt 19 = .ok (.goto 19, 3) := by decide +kernel
theorem zd_H_byteAt_22 : decode zc_H_byteAt 22 = .ok (.aload_n 0, 1) := by decide +kernel
theorem zd_H_byteAt_23 : decode zc_H_byteAt 23 = .ok (.getfield 13, 3) := by decide +kernel
theorem zd_H_byteAt_26 : decode zc_H_byteAt 26 = .ok (.iload_n 1, 1) := by decide +kernel
theorem zd_H_byteAt_27 : decode zc_H_byteAt 27 = .ok (.aload_n 0, 1) := by decide +kernel
theorem zd_H_byteAt_28 : decode zc_H_byteAt 28 = .ok (.getfield 7, 3) := by decide +kernel
theorem zd_H_byteAt_31 : decode zc_H_byteAt 31 = .ok (.getfield 16, 3) := by decide +kernel
theorem zd_H_byteAt_34 : decode zc_H_byteAt 34 = .ok (.isub, 1) := by decide +kernel
theorem zd_H_byteAt_35 : decode zc_H_byteAt 35 = .ok (.invokevirtual 22, 3) := by decide +kernel
theorem zd_H_byteAt_38 : decode zc_H_byteAt 38 = .ok (.ireturn, 1) := by decide +kernel
theorem zd_H_intAt_0 : decode zc_H_intAt 0 = .ok (.aload_n 0, 1) := by decide +kernel
theorem zd_H_intAt_1 : decode zc_H_intAt 1 = .ok (.iload_n 1, 1) := by decide +kernel
theorem zd_H_intAt_2 : decode zc_H_intAt 2 = .ok (.invokevirtual 26, 3) := by decide +kernel
theorem zd_H_intAt_5 : decode zc_H_intAt 5 = .ok (.aload_n 0, 1) := by decide +kernel
theorem zd_H_intAt_6 : decode zc_H_intAt 6 = .ok (.iload_n 1, 1) := by decide +kernel
theorem zd_H_intAt_7 : decode zc_H_intAt 7 = .ok (.iconst 1, 1) := by decide +kernel
theorem zd_H_intAt_8 : decode zc_H_intAt 8 = .ok (.iadd, 1) := by decide +kernel
theorem zd_H_intAt_9 : decode zc_H_intAt 9 = .ok (.invokevirtual 26, 3) := by decide +kernel
theorem zd_H_intAt_12 : decode zc_H_intAt 12 = .ok (.bipush 8, 2) := by decide +kernel
theorem zd_H_intAt_14 : decode zc_H_intAt 14 = .ok (.ishl, 1) := by decide +kernel
theorem zd_H_intAt_15 : decode zc_H_intAt 15 = .ok (.ior, 1) := by decide +kernel
theorem zd_H_intAt_16 : decode zc_H_intAt 16 = .ok (.aload_n 0, 1) := by decide +kernel
theorem zd_H_intAt_17 : decode zc_H_intAt 17 = .ok (.iload_n 1, 1) := by decide +kernel
theorem zd_H_intAt_18 : decode zc_H_intAt 18 = .ok (.iconst 2, 1) := by decide +kernel
theorem zd_H_intAt_19 : decode zc_H_intAt 19 = .ok (.iadd, 1) := by decide +kernel
theorem zd_H_intAt_20 : decode zc_H_intAt 20 = .ok (.invokevirtual 26, 3) := by decide +kernel
theorem zd_H_intAt_23 : decode zc_H_intAt 23 = .ok (.bipush 16, 2) := by decide +kernel
theorem zd_H_intAt_25 : decode zc_H_intAt 25 = .ok (.ishl, 1) := by decide +kernel
theorem zd_H_intAt_26 : decode zc_H_intAt 26 = .ok (.ior, 1) := by decide +kernel
theorem zd_H_intAt_27 : decode zc_H_intAt 27 = .ok (.aload_n 0, 1) := by decide +kernel
theorem zd_H_intAt_28 : decode zc_H_intAt 28 = .ok (.iload_n 1, 1) := by decide +kernel
theorem zd_H_intAt_29 : decode zc_H_intAt 29 = .ok (.iconst 3, 1) := by decide +kernel
theorem zd_H_intAt_30 : decode zc_H_intAt 30 = .ok (.iadd, 1) := by decide +kernel
theorem zd_H_intAt_31 : decode zc_H_intAt 31 = .ok (.invokevirtual 26, 3) := by decide +kernel
theorem zd_H_intAt_34 : decode zc_H_intAt 34 = .ok (.bipush 24, 2) := by decide +kernel
theorem zd_H_intAt_36 : decode zc_H_intAt 36 = .ok (.ishl, 1) := by decide +kernel
theorem zd_H_intAt_37 : decode zc_H_intAt 37 = .ok (.ior, 1) := by decide +kernel
theorem zd_H_intAt_38 : decode zc_H_intAt 38 = .ok (.ireturn, 1) := by decide +kernel
theorem zd_P_run_0 : decode zc_P_run 0 = .ok (.aload_n 0, 1) := by decide +kernel
theorem zd_P_run_1 : decode zc_P_run 1 = .ok (.iconst 0, 1) := by decide +kernel
theorem zd_P_run_2 : decode zc_P_run 2 = .ok (.putfield 29, 3) := by decide +kernel
theorem zd_P_run_5 : decode zc_P_run 5 = .ok (.aload_n 0, 1) := by decide +kernel
theorem zd_P_run_6 : decode zc_P_run 6 = .ok (.iconst 0, 1) := by decide +kernel
theorem zd_P_run_7 : decode zc_P_run 7 = .ok (.putfield 33, 3) := by decide +kernel
theorem zd_P_run_10 : decode zc_P_run 10 = .ok (.aload_n 0, 1) := by decide +kernel
theorem zd_P_run_11 : decode zc_P_run 11 = .ok (.iconst 0, 1) := by decide +kernel
theorem zd_P_run_12 : decode zc_P_run 12 = .ok (.putfield 36, 3) := by decide +kernel
theorem zd_P_run_15 : decode zc_P_run 15 = .ok (.aload_n 0, 1) := by decide +kernel
theorem zd_P_run_16 : decode zc_P_run 16 = .ok (.invokevirtual 39, 3) := by decide +kernel
theorem zd_P_run_19 : decode zc_P_run 19 = .ok (.aload_n 1, 1) := by decide +kernel
theorem zd_P_run_20 : decode zc_P_run 20 = .ok (.invokevirtual 42, 3) := by decide +kernel
theorem zd_P_run_23 : decode zc_P_run 23 = .ok (.iconst 0, 1) := by decide +kernel
theorem zd_P_run_24 : decode zc_P_run 24 = .ok (.istore_n 2, 1) := by decide +kernel
theorem zd_P_run_25 : decode zc_P_run 25 = .ok (.iload_n 2, 1) := by decide +kernel
theorem zd_P_run_26 : decode zc_P_run 26 = .ok (.bipush 12, 2) := by decide +kernel
theorem zd_P_run_28 : decode zc_P_run 28 = .ok (.iadd, 1) := by decide +kernel
theorem zd_P_run_29 : decode zc_P_run 29 = .ok (.aload_n 0, 1) := by decide +kernel
theorem zd_P_run_30 : decode zc_P_run 30 = .ok (.getfield 13, 3) := by decide +kernel
theorem zd_P_run_33 : decode zc_P_run 33 = .ok (.getfield 47, 3) := by decide +kernel
theorem zd_P_run_36 : decode zc_P_run 36 = .ok (.if_icmp .gt 19, 3) := by decide +kernel
theorem zd_P_run_39 : decode zc_P_run 39 = .ok (.iload_n 2, 1) := by decide +kernel
theorem zd_P_run_40 : decode zc_P_run 40 = .ok (.iconst 1, 1) := by decide +kernel
theorem zd_P_run_41 : decode zc_P_run 41 = .ok (.aload_n 0, 1) := by decide +kernel
theorem zd_P_run_42 : decode zc_P_run 42 = .ok (.iload_n 2, 1) := by decide +kernel
theorem zd_P_run_43 : decode zc_P_run 43 = .ok (.aload_n 1, 1) := by decide +kernel
theorem zd_P_run_44 : decode zc_P_run 44 = .ok (.invokevirtual 52, 3) := by decide +kernel
theorem zd_P_run_47 : decode zc_P_run 47 = .ok (.invokestatic 56, 3) := by decide +kernel
theorem zd_P_run_50 : decode zc_P_run 50 = .ok (.iadd, 1) := by decide +kernel
theorem zd_P_run_51 : decode zc_P_run 51 = .ok (.istore_n 2, 1) := by decide +kernel
theorem zd_P_run_52 : decode zc_P_run 52 = .ok (.goto (-27), 3) := by decide +kernel
theorem zd_P_run_55 : decode zc_P_run 55 = .ok (.aload_n 1, 1) := by decide +kernel
theorem zd_P_run_56 : decode zc_P_run 56 = .ok (.aload_n 0, 1) := by decide +kernel
theorem zd_P_run_57 : decode zc_P_run 57 = .ok (.getfield 29, 3) := by decide +kernel
theorem zd_P_run_60 : decode zc_P_run 60 = .ok (.invokevirtual 62, 3) := by decide +kernel
theorem zd_P_run_63 : decode zc_P_run 63 = .ok (.return_, 1) := by decide +kernel
theorem zd_P_learnPast_0 : decode zc_P_learnPast 0 = .ok (.iconst 0, 1) := by decide +kernel
theorem zd_P_learnPast_1 : decode zc_P_learnPast 1 = .ok (.istore_n 1, 1) := by decide +kernel
theorem zd_P_learnPast_2 : decode zc_P_learnPast 2 = .ok (.iload_n 1, 1) := by decide +kernel
theorem zd_P_learnPast_3 : decode zc_P_learnPast 3 = .ok (.aload_n 0, 1) := by decide +kernel
theorem zd_P_learnPast_4 : decode zc_P_learnPast 4 = .ok (.getfield 25, 3) := by decide +kernel
theorem zd_P_learnPast_7 : decode zc_P_learnPast 7 = .ok (.arraylength, 1) := by decide +kernel
theorem zd_P_learnPast_8 : decode zc_P_learnPast 8 = .ok (.if_icmp .ge 16, 3) := by decide +kernel
theorem zd_P_learnPast_11 : decode zc_P_learnPast 11 = .ok (.aload_n 0, 1) := by decide +kernel
theorem zd_P_learnPast_12 : decode zc_P_learnPast 12 = .ok (.getfield 25, 3) := by decide +kernel
theorem zd_P_learnPast_15 : decode zc_P_learnPast 15 = .ok (.iload_n 1, 1) := by decide +kernel
theorem zd_P_learnPast_16 : decode zc_P_learnPast 16 = .ok (.iconst (-1), 1) := by decide +kernel
theorem zd_P_learnPast_17 : decode zc_P_learnPast 17 = .ok (.iastore, 1) := by decide +kernel
theorem zd_P_learnPast_18 : decode zc_P_learnPast 18 = .ok (.iinc 1 1, 3) := by decide +kernel
theorem zd_P_learnPast_21 : decode zc_P_learnPast 21 = .ok (.goto (-19), 3) := by decide +kernel
theorem zd_P_learnPast_24 : decode zc_P_learnPast 24 = .ok (.iconst 0, 1) := by decide +kernel
theorem zd_P_learnPast_25 : decode zc_P_learnPast 25 = .ok (.istore_n 1, 1) := by decide +kernel
theorem zd_P_learnPast_26 : decode zc_P_learnPast 26 = .ok (.iload_n 1, 1) := by decide +kernel
theorem zd_P_learnPast_27 : decode zc_P_learnPast 27 = .ok (.iconst 4, 1) := by decide +kernel
theorem zd_P_learnPast_28 : decode zc_P_learnPast 28 = .ok (.iadd, 1) := by decide +kernel
theorem zd_P_learnPast_29 : decode zc_P_learnPast 29 = .ok (.aload_n 0, 1) := by decide +kernel
theorem zd_P_learnPast_30 : decode zc_P_learnPast 30 = .ok (.getfield 7, 3) := by decide +kernel
theorem zd_P_learnPast_33 : decode zc_P_learnPast 33 = .ok (.getfield 47, 3) := by decide +kernel
theorem zd_P_learnPast_36 : decode zc_P_learnPast 36 = .ok (.if_icmp .gt 15, 3) := by decide +kernel
theorem zd_P_learnPast_39 : decode zc_P_learnPast 39 = .ok (.aload_n 0, 1) := by decide +kernel
theorem zd_P_learnPast_40 : decode zc_P_learnPast 40 = .ok (.iload_n 1, 1) := by decide +kernel
theorem zd_P_learnPast_41 : decode zc_P_learnPast 41 = .ok (.invokevirtual 66, 3) := by decide +kernel
theorem zd_P_learnPast_44 : decode zc_P_learnPast 44 = .ok (.pop, 1) := by decide +kernel
theorem zd_P_learnPast_45 : decode zc_P_learnPast 45 = .ok (.iinc 1 1, 3) := by decide +kernel
theorem zd_P_learnPast_48 : decode zc_P_learnPast 48 = .ok (.goto (-22), 3) := by decide +kernel
theorem zd_P_learnPast_51 : decode zc_P_learnPast 51 = .ok (.return_, 1) := by decide +kernel
theorem zd_P_copyFrom_0 : decode zc_P_copyFrom 0 = .ok (.aload_n 0, 1) := by decide +kernel
theorem zd_P_copyFrom_1 : decode zc_P_copyFrom 1 = .ok (.getfield 7, 3) := by decide +kernel
theorem zd_P_copyFrom_4 : decode zc_P_copyFrom 4 = .ok (.getfield 47, 3) := by decide +kernel
theorem zd_P_copyFrom_7 : decode zc_P_copyFrom 7 = .ok (.iload_n 1, 1) := by decide +kernel
theorem zd_P_copyFrom_8 : decode zc_P_copyFrom 8 = .ok (.iadd, 1) := by decide +kernel
theorem zd_P_copyFrom_9 : decode zc_P_copyFrom 9 = .ok (.istore_n 3, 1) := by decide +kernel
theorem zd_P_copyFrom_10 : decode zc_P_copyFrom 10 = .ok (.aload_n 0, 1) := by decide +kernel
theorem zd_P_copyFrom_11 : decode zc_P_copyFrom 11 = .ok (.iload_n 3, 1) := by decide +kernel
theorem zd_P_copyFrom_12 : decode zc_P_copyFrom 12 = .ok (.invokevirtual 66, 3) := by decide +kernel
theorem zd_P_copyFrom_15 : decode zc_P_copyFrom 15 = .ok (.istore 4, 2) := by decide +kernel
theorem zd_P_copyFrom_17 : decode zc_P_copyFrom 17 = .ok (.iload 4, 2) := by decide +kernel
theorem zd_P_copyFrom_19 : decode zc_P_copyFrom 19 = .ok (.iconst (-1), 1) := by decide +kernel
theorem zd_P_copyFrom_20 : decode zc_P_copyFrom 20 = .ok (.if_icmp .eq 23, 3) := by decide +kernel
theorem zd_P_copyFrom_23 : decode zc_P_copyFrom 23 = .ok (.aload_n 0, 1) := by decide +kernel
theorem zd_P_copyFrom_24 : decode zc_P_copyFrom 24 = .ok (.getfield 21, 3) := by decide +kernel
theorem zd_P_copyFrom_27 : decode zc_P_copyFrom 27 = .ok (.iload 4, 2) := by decide +kernel
theorem zd_P_copyFrom_29 : decode zc_P_copyFrom 29 = .ok (.invokevirtual 70, 3) := by decide +kernel
theorem zd_P_copyFrom_32 : decode zc_P_copyFrom 32 = .ok (.aload_n 0, 1) := by decide +kernel
theorem zd_P_copyFrom_33 : decode zc_P_copyFrom 33 = .ok (.getfield 21, 3) := by decide +kernel
theorem zd_P_copyFrom_36 : decode zc_P_copyFrom 36 = .ok (.iload_n 3, 1) := by decide +kernel
theorem zd_P_copyFrom_37 : decode zc_P_copyFrom 37 = .ok (.invokevirtual 70, 3) := by decide +kernel
theorem zd_P_copyFrom_40 : decode zc_P_copyFrom 40 = .ok (.if_icmp .eq 5, 3) := by decide +kernel
theorem zd_P_copyFrom_43 : decode zc_P_copyFrom 43 = .ok (.iconst 0, 1) := by decide +kernel
theorem zd_P_copyFrom_44 : decode zc_P_copyFrom 44 = .ok (.ireturn, 1) := by decide +kernel
theorem zd_P_copyFrom_45 : decode zc_P_copyFrom 45 = .ok (.aload_n 0, 1) := by decide +kernel
theorem zd_P_copyFrom_46 : decode zc_P_copyFrom 46 = .ok (.iload 4, 2) := by decide +kernel
theorem zd_P_copyFrom_48 : decode zc_P_copyFrom 48 = .ok (.iload_n 3, 1) := by decide +kernel
theorem zd_P_copyFrom_49 : decode zc_P_copyFrom 49 = .ok (.invokevirtual 73, 3) := by decide +kernel
theorem zd_P_copyFrom_52 : decode zc_P_copyFrom 52 = .ok (.istore 5, 2) := by decide +kernel
theorem zd_P_copyFrom_54 : decode zc_P_copyFrom 54 = .ok (.aload_n 2, 1) := by decide +kernel
theorem zd_P_copyFrom_55 : decode zc_P_copyFrom 55 = .ok (.aload_n 0, 1) := by decide +kernel
theorem zd_P_copyFrom_56 : decode zc_P_copyFrom 56 = .ok (.getfield 29, 3) := by decide +kernel
theorem zd_P_copyFrom_59 : decode zc_P_copyFrom 59 = .ok (.iload_n 1, 1) := by decide +kernel
theorem zd_P_copyFrom_60 : decode zc_P_copyFrom 60 = .ok (.iload_n 3, 1) := by decide +kernel
theorem zd_P_copyFrom_61 : decode zc_P_copyFrom 61 = .ok (.iload 4, 2) := by decide +kernel
theorem zd_P_copyFrom_63 : decode zc_P_copyFrom 63 = .ok (.isub, 1) := by decide +kernel
theorem zd_P_copyFrom_64 : decode zc_P_copyFrom 64 = .ok (.iload 5, 2) := by decide +kernel
theorem zd_P_copyFrom_66 : decode zc_P_copyFrom 66 = .ok (.invokevirtual 76, 3) := by decide +kernel
theorem zd_P_copyFrom_69 : decode zc_P_copyFrom 69 = .ok (.aload_n 0, 1) := by decide +kernel
theorem zd_P_copyFrom_70 : decode zc_P_copyFrom 70 = .ok (.iload_n 1, 1) := by decide +kernel
theorem zd_P_copyFrom_71 : decode zc_P_copyFrom 71 = .ok (.iload 5, 2) := by decide +kernel
theorem zd_P_copyFrom_73 : decode zc_P_copyFrom 73 = .ok (.iadd, 1) := by decide +kernel
theorem zd_P_copyFrom_74 : decode zc_P_copyFrom 74 = .ok (.putfield 29, 3) := by decide +kernel
theorem zd_P_copyFrom_77 : decode zc_P_copyFrom 77 = .ok (.aload_n 0, 1) := by decide +kernel
theorem zd_P_copyFrom_78 : decode zc_P_copyFrom 78 = .ok (.dup, 1) := by decide +kernel
theorem zd_P_copyFrom_79 : decode zc_P_copyFrom 79 = .ok (.getfield 33, 3) := by decide +kernel
theorem zd_P_copyFrom_82 : decode zc_P_copyFrom 82 = .ok (.iconst 1, 1) := by decide +kernel
theorem zd_P_copyFrom_83 : decode zc_P_copyFrom 83 = .ok (.iadd, 1) := by decide +kernel
theorem zd_P_copyFrom_84 : decode zc_P_copyFrom 84 = .ok (.putfield 33, 3) := by decide +kernel
theorem zd_P_copyFrom_87 : decode zc_P_copyFrom 87 = .ok (.aload_n 0, 1) := by decide +kernel
theorem zd_P_copyFrom_88 : decode zc_P_copyFrom 88 = .ok (.dup, 1) := by decide +kernel
theorem zd_P_copyFrom_89 : decode zc_P_copyFrom 89 = .ok (.getfield 36, 3) := by decide +kernel
theorem zd_P_copyFrom_92 : decode zc_P_copyFrom 92 = .ok (.iload 5, 2) := by decide +kernel
theorem zd_P_copyFrom_94 : decode zc_P_copyFrom 94 = .ok (.iadd, 1) := by decide +kernel
theorem zd_P_copyFrom_95 : decode zc_P_copyFrom 95 = .ok (.putfield 36, 3) := by decide +kernel
theorem zd_P_copyFrom_98 : decode zc_P_copyFrom 98 = .ok (.iload 5, 2) := by decide +kernel
theorem zd_P_copyFrom_100 : decode zc_P_copyFrom 100 = .ok (.ireturn, 1) := by decide +kernel
theorem zd_P_matchLength_0 : decode zc_P_matchLength 0 = .ok (.aload_n 0, 1) := by decide +kernel
theorem zd_P_matchLength_1 : decode zc_P_matchLength 1 = .ok (.getfield 21, 3) := by decide +kernel
theorem zd_P_matchLength_4 : decode zc_P_matchLength 4 = .ok (.invokevirtual 80, 3) := by decide +kernel
theorem zd_P_matchLength_7 : decode zc_P_matchLength 7 = .ok (.iconst 5, 1) := by decide +kernel
theorem zd_P_matchLength_8 : decode zc_P_matchLength 8 = .ok (.isub, 1) := by decide +kernel
theorem zd_P_matchLength_9 : decode zc_P_matchLength 9 = .ok (.iload_n 2, 1) := by decide +kernel
theorem zd_P_matchLength_10 : decode zc_P_matchLength 10 = .ok (.isub, 1) := by decide +kernel
theorem zd_P_matchLength_11 : decode zc_P_matchLength 11 = .ok (.istore_n 3, 1) := by decide +kernel
theorem zd_P_matchLength_12 : decode zc_P_matchLength 12 = .ok (.iconst 0, 1) := by decide +kernel
theorem zd_P_matchLength_13 : decode zc_P_matchLength 13 = .ok (.istore 4, 2) := by decide +kernel
theorem zd_P_matchLength_15 : decode zc_P_matchLength 15 = .ok (.iload 4, 2) := by decide +kernel
theorem zd_P_matchLength_17 : decode zc_P_matchLength 17 = .ok (.iload_n 3, 1) := by decide +kernel
theorem zd_P_matchLength_18 : decode zc_P_matchLength 18 = .ok (.if_icmp .ge 34, 3) := by decide +kernel
theorem zd_P_matchLength_21 : decode zc_P_matchLength 21 = .ok (.aload_n 0, 1) := by decide +kernel
theorem zd_P_matchLength_22 : decode zc_P_matchLength 22 = .ok (.getfield 21, 3) := by decide +kernel
theorem zd_P_matchLength_25 : decode zc_P_matchLength 25 = .ok (.iload_n 1, 1) := by decide +kernel
theorem zd_P_matchLength_26 : decode zc_P_matchLength 26 = .ok (.iload 4, 2) := by decide +kernel
theorem zd_P_matchLength_28 : decode zc_P_matchLength 28 = .ok (.iadd, 1) := by decide +kernel
theorem zd_P_matchLength_29 : decode zc_P_matchLength 29 = .ok (.invokevirtual 84, 3) := by decide +kernel
theorem zd_P_matchLength_32 : decode zc_P_matchLength 32 = .ok (.aload_n 0, 1) := by decide +kernel
theorem zd_P_matchLength_33 : decode zc_P_matchLength 33 = .ok (.getfield 21, 3) := by decide +kernel
theorem zd_P_matchLength_36 : decode zc_P_matchLength 36 = .ok (.iload_n 2, 1) := by decide +kernel
theorem zd_P_matchLength_37 : decode zc_P_matchLength 37 = .ok (.iload 4, 2) := by decide +kernel
theorem zd_P_matchLength_39 : decode zc_P_matchLength 39 = .ok (.iadd, 1) := by decide +kernel
theorem zd_P_matchLength_40 : decode zc_P_matchLength 40 = .ok (.invokevirtual 84, 3) := by decide +kernel
theorem zd_P_matchLength_43 : decode zc_P_matchLength 43 = .ok (.if_icmp .ne 9, 3) := by decide +kernel
theorem zd_P_matchLength_46 : decode zc_P_matchLength 46 = .ok (.iinc 4 1, 3) := by decide +kernel
theorem zd_P_matchLength_49 : decode zc_P_matchLength 49 = .ok (.goto (-34), 3) := by decide +kernel
theorem zd_P_matchLength_52 : decode zc_P_matchLength 52 = .ok (.iload 4, 2) := by decide +kernel
theorem zd_P_matchLength_54 : decode zc_P_matchLength 54 = .ok (.ireturn, 1) := by decide +kernel
theorem zd_P_exchange_0 : decode zc_P_exchange 0 = .ok (.aload_n 0, 1) := by decide +kernel
theorem zd_P_exchange_1 : decode zc_P_exchange 1 = .ok (.getfield 21, 3) := by decide +kernel
theorem zd_P_exchange_4 : decode zc_P_exchange 4 = .ok (.iload_n 1, 1) := by decide +kernel
theorem zd_P_exchange_5 : decode zc_P_exchange 5 = .ok (.invokevirtual 70, 3) := by decide +kernel
theorem zd_P_exchange_8 : decode zc_P_exchange 8 = .ok (.ldc 87, 2) := by decide +kernel
theorem zd_P_exchange_10 : decode zc_P_exchange 10 = .ok (.imul, 1) := by decide +kernel
theorem zd_P_exchange_11 : decode zc_P_exchange 11 = .ok (.bipush 27, 2) := by decide +kernel
theorem zd_P_exchange_13 : decode zc_P_exchange 13 = .ok (.iushr, 1) := by decide +kernel
theorem zd_P_exchange_14 : decode zc_P_exchange 14 = .ok (.istore_n 2, 1) := by decide +kernel
theorem zd_P_exchange_15 : decode zc_P_exchange 15 = .ok (.iload_n 2, 1) := by decide +kernel
theorem zd_P_exchange_16 : decode zc_P_exchange 16 = .ok (.ifCond .lt 12, 3) := by decide +kernel
theorem zd_P_exchange_19 : decode zc_P_exchange 19 = .ok (.iload_n 2, 1) := by decide +kernel
theorem zd_P_exchange_20 : decode zc_P_exchange 20 = .ok (.aload_n 0, 1) := by decide +kernel
theorem zd_P_exchange_21 : decode zc_P_exchange 21 = .ok (.getfield 25, 3) := by decide +kernel
theorem zd_P_exchange_24 : decode zc_P_exchange 24 = .ok (.arraylength, 1) := by decide +kernel
theorem zd_P_exchange_25 : decode zc_P_exchange 25 = .ok (.if_icmp .lt 5, 3) := by decide +kernel
theorem zd_P_exchange_28 : decode zc_P_exchange 28 = .ok (.iconst (-1), 1) := by decide +kernel
theorem zd_P_exchange_29 : decode zc_P_exchange 29 = .ok (.ireturn, 1) := by decide +kernel
theorem zd_P_exchange_30 : decode zc_P_exchange 30 = .ok (.aload_n 0, 1) := by decide +kernel
theorem zd_P_exchange_31 : decode zc_P_exchange 31 = .ok (.getfield 25, 3) := by decide +kernel
theorem zd_P_exchange_34 : decode zc_P_exchange 34 = .ok (.iload_n 2, 1) := by decide +kernel
theorem zd_P_exchange_35 : decode zc_P_exchange 35 = .ok (.iaload, 1) := by decide +kernel
theorem zd_P_exchange_36 : decode zc_P_exchange 36 = .ok (.istore_n 3, 1) := by decide +kernel
theorem zd_P_exchange_37 : decode zc_P_exchange 37 = .ok (.aload_n 0, 1) := by decide +kernel
theorem zd_P_exchange_38 : decode zc_P_exchange 38 = .ok (.getfield 25, 3) := by decide +kernel
theorem zd_P_exchange_41 : decode zc_P_exchange 41 = .ok (.iload_n 2, 1) := by decide +kernel
theorem zd_P_exchange_42 : decode zc_P_exchange 42 = .ok (.iload_n 1, 1) := by decide +kernel
theorem zd_P_exchange_43 : decode zc_P_exchange 43 = .ok (.iastore, 1) := by decide +kernel
theorem zd_P_exchange_44 : decode zc_P_exchange 44 = .ok (.iload_n 3, 1) := by decide +kernel
theorem zd_P_exchange_45 : decode zc_P_exchange 45 = .ok (.ireturn, 1) := by decide +kernel
theorem zd_D_rewind_0 : decode zc_D_rewind 0 = .ok (.aload_n 0, 1) := by decide +kernel
theorem zd_D_rewind_1 : decode zc_D_rewind 1 = .ok (.iconst 0, 1) := by decide +kernel
theorem zd_D_rewind_2 : decode zc_D_rewind 2 = .ok (.putfield 25, 3) := by decide +kernel
theorem zd_D_rewind_5 : decode zc_D_rewind 5 = .ok (.aload_n 0, 1) := by decide +kernel
theorem zd_D_rewind_6 : decode zc_D_rewind 6 = .ok (.iconst (-1), 1) := by decide +kernel
theorem zd_D_rewind_7 : decode zc_D_rewind 7 = .ok (.putfield 29, 3) := by decide +kernel
theorem zd_D_rewind_10 : decode zc_D_rewind 10 = .ok (.aload_n 0, 1) := by decide +kernel
theorem zd_D_rewind_11 : decode zc_D_rewind 11 = .ok (.getfield 13, 3) := by decide +kernel
theorem zd_D_rewind_14 : decode zc_D_rewind 14 = .ok (.invokevirtual 32, 3) := by decide +kernel
theorem zd_D_rewind_17 : decode zc_D_rewind 17 = .ok (.return_, 1) := by decide +kernel
theorem zd_D_refused_0 : decode zc_D_refused 0 = .ok (.aload_n 0, 1) := by decide +kernel
theorem zd_D_refused_1 : decode zc_D_refused 1 = .ok (.getfield 29, 3) := by decide +kernel
theorem zd_D_refused_4 : decode zc_D_refused 4 = .ok (.iconst (-1), 1) := by decide +kernel
theorem zd_D_refused_5 : decode zc_D_refused 5 = .ok (.if_icmp .eq 7, 3) := by decide +kernel
theorem zd_D_refused_8 : decode zc_D_refused 8 = .ok (.iconst 1, 1) := by decide +kernel
theorem zd_D_refused_9 : decode zc_D_refused 9 = .ok (.goto 4, 3) := by decide +kernel
theorem zd_D_refused_12 : decode zc_D_refused 12 = .ok (.iconst 0, 1) := by decide +kernel
theorem zd_D_refused_13 : decode zc_D_refused 13 = .ok (.ireturn, 1) := by decide +kernel
theorem zd_D_atEnd_0 : decode zc_D_atEnd 0 = .ok (.aload_n 0, 1) := by decide +kernel
theorem zd_D_atEnd_1 : decode zc_D_atEnd 1 = .ok (.getfield 25, 3) := by decide +kernel
theorem zd_D_atEnd_4 : decode zc_D_atEnd 4 = .ok (.aload_n 0, 1) := by decide +kernel
theorem zd_D_atEnd_5 : decode zc_D_atEnd 5 = .ok (.getfield 7, 3) := by decide +kernel
theorem zd_D_atEnd_8 : decode zc_D_atEnd 8 = .ok (.getfield 37, 3) := by decide +kernel
theorem zd_D_atEnd_11 : decode zc_D_atEnd 11 = .ok (.if_icmp .lt 7, 3) := by decide +kernel
theorem zd_D_atEnd_14 : decode zc_D_atEnd 14 = .ok (.iconst 1, 1) := by decide +kernel
theorem zd_D_atEnd_15 : decode zc_D_atEnd 15 = .ok (.goto 4, 3) := by decide +kernel
theorem zd_D_atEnd_18 : decode zc_D_atEnd 18 = .ok (.iconst 0, 1) := by decide +kernel
theorem zd_D_atEnd_19 : decode zc_D_atEnd 19 = .ok (.ireturn, 1) := by decide +kernel
theorem zd_D_refuseIf_0 : decode zc_D_refuseIf 0 = .ok (.iload_n 1, 1) := by decide +kernel
theorem zd_D_refuseIf_1 : decode zc_D_refuseIf 1 = .ok (.ifCond .eq 16, 3) := by decide +kernel
theorem zd_D_refuseIf_4 : decode zc_D_refuseIf 4 = .ok (.aload_n 0, 1) := by decide +kernel
theorem zd_D_refuseIf_5 : decode zc_D_refuseIf 5 = .ok (.getfield 29, 3) := by decide +kernel
theorem zd_D_refuseIf_8 : decode zc_D_refuseIf 8 = .ok (.iconst (-1), 1) := by decide +kernel
theorem zd_D_refuseIf_9 : decode zc_D_refuseIf 9 = .ok (.if_icmp .ne 8, 3) := by decide +kernel
theorem zd_D_refuseIf_12 : decode zc_D_refuseIf 12 = .ok (.aload_n 0, 1) := by decide +kernel
theorem zd_D_refuseIf_13 : decode zc_D_refuseIf 13 = .ok (.iload_n 2, 1) := by decide +kernel
theorem zd_D_refuseIf_14 : decode zc_D_refuseIf 14 = .ok (.putfield 29, 3) := by decide +kernel
theorem zd_D_refuseIf_17 : decode zc_D_refuseIf 17 = .ok (.return_, 1) := by decide +kernel
theorem zd_D_take_0 : decode zc_D_take 0 = .ok (.aload_n 0, 1) := by decide +kernel
theorem zd_D_take_1 : decode zc_D_take 1 = .ok (.aload_n 0, 1) := by decide +kernel
theorem zd_D_take_2 : decode zc_D_take 2 = .ok (.getfield 25, 3) := by decide +kernel
theorem zd_D_take_5 : decode zc_D_take 5 = .ok (.aload_n 0, 1) := by decide +kernel
theorem zd_D_take_6 : decode zc_D_take 6 = .ok (.getfield 7, 3) := by decide +kernel
theorem zd_D_take_9 : decode zc_D_take 9 = .ok (.getfield 37, 3) := by decide +kernel
theorem zd_D_take_12 : decode zc_D_take 12 = .ok (.if_icmp .lt 7, 3) := by decide +kernel
theorem zd_D_take_15 : decode zc_D_take 15 = .ok (.iconst 1, 1) := by decide +kernel
theorem zd_D_take_16 : decode zc_D_take 16 = .ok (.goto 4, 3) := by decide +kernel
theorem zd_D_take_19 : decode zc_D_take 19 = .ok (.iconst 0, 1) := by decide +kernel
theorem zd_D_take_20 : decode zc_D_take 20 = .ok (.aload_n 0, 1) := by decide +kernel
theorem zd_D_take_21 : decode zc_D_take 21 = .ok (.getfield 7, 3) := by decide +kernel
theorem zd_D_take_24 : decode zc_D_take 24 = .ok (.getfield 37, 3) := by decide +kernel
theorem zd_D_take_27 : decode zc_D_take 27 = .ok (.invokevirtual 40, 3) := by decide +kernel
theorem zd_D_take_30 : decode zc_D_take 30 = .ok (.aload_n 0, 1) := by decide +kernel
theorem zd_D_take_31 : decode zc_D_take 31 = .ok (.getfield 29, 3) := by decide +kernel
theorem zd_D_take_34 : decode zc_D_take 34 = .ok (.iconst (-1), 1) := by decide +kernel
theorem zd_D_take_35 : decode zc_D_take 35 = .ok (.if_icmp .eq 5, 3) := by decide +kernel
theorem zd_D_take_38 : decode zc_D_take 38 = .ok (.iconst 0, 1) := by decide +kernel
theorem zd_D_take_39 : decode zc_D_take 39 = .ok (.ireturn, 1) := by decide +kernel
theorem zd_D_take_40 : decode zc_D_take 40 = .ok (.aload_n 0, 1) := by decide +kernel
theorem zd_D_take_41 : decode zc_D_take 41 = .ok (.getfield 7, 3) := by decide +kernel
theorem zd_D_take_44 : decode zc_D_take 44 = .ok (.aload_n 0, 1) := by decide +kernel
theorem zd_D_take_45 : decode zc_D_take 45 = .ok (.getfield 25, 3) := by decide +kernel
theorem zd_D_take_48 : decode zc_D_take 48 = .ok (.invokevirtual 44, 3) := by decide +kernel
theorem zd_D_take_51 : decode zc_D_take 51 = .ok (.istore_n 1, 1) := by decide +kernel
theorem zd_D_take_52 : decode zc_D_take 52 = .ok (.aload_n 0, 1) := by decide +kernel
theorem zd_D_take_53 : decode zc_D_take 53 = .ok (.dup, 1) := by decide +kernel
theorem zd_D_take_54 : decode zc_D_take 54 = .ok (.getfield 25, 3) := by decide +kernel
theorem zd_D_take_57 : decode zc_D_take 57 = .ok (.iconst 1, 1) := by decide +kernel
theorem zd_D_take_58 : decode zc_D_take 58 = .ok (.iadd, 1) := by decide +kernel
theorem zd_D_take_59 : decode zc_D_take 59 = .ok (.putfield 25, 3) := by decide +kernel
theorem zd_D_take_62 : decode zc_D_take 62 = .ok (.iload_n 1, 1) := by decide +kernel
theorem zd_D_take_63 : decode zc_D_take 63 = .ok (.ireturn, 1) := by decide +kernel
theorem zd_D_takeTwo_0 : decode zc_D_takeTwo 0 = .ok (.aload_n 0, 1) := by decide +kernel
theorem zd_D_takeTwo_1 : decode zc_D_takeTwo 1 = .ok (.invokevirtual 48, 3) := by decide +kernel
theorem zd_D_takeTwo_4 : decode zc_D_takeTwo 4 = .ok (.istore_n 1, 1) := by decide +kernel
theorem zd_D_takeTwo_5 : decode zc_D_takeTwo 5 = .ok (.iload_n 1, 1) := by decide +kernel
theorem zd_D_takeTwo_6 : decode zc_D_takeTwo 6 = .ok (.aload_n 0, 1) := by decide +kernel
theorem zd_D_takeTwo_7 : decode zc_D_takeTwo 7 = .ok (.invokevirtual 48, 3) := by decide +kernel
theorem zd_D_takeTwo_10 : decode zc_D_takeTwo 10 = .ok (.bipush 8, 2) := by decide +kernel
theorem zd_D_takeTwo_12 : decode zc_D_takeTwo 12 = .ok (.ishl, 1) := by decide +kernel
theorem zd_D_takeTwo_13 : decode zc_D_takeTwo 13 = .ok (.ior, 1) := by decide +kernel
theorem zd_D_takeTwo_14 : decode zc_D_takeTwo 14 = .ok (.ireturn, 1) := by decide +kernel
theorem zd_D_requireDistance_0 : decode zc_D_requireDistance 0 = .ok (.aload_n 0, 1) := by decide +kernel
theorem zd_D_requireDistance_1 : decode zc_D_requireDistance 1 = .ok (.iload_n 1, 1) := by decide +kernel
theorem zd_D_requireDistance_2 : decode zc_D_requireDistance 2 = .ok (.ifCond .eq 14, 3) := by decide +kernel
theorem zd_D_requireDistance_5 : decode zc_D_requireDistance 5 = .ok (.iload_n 1, 1) := by decide +kernel
theorem zd_D_requireDistance_6 : decode zc_D_requireDistance 6 = .ok (.aload_n 0, 1) := by decide +kernel
theorem zd_D_requireDistance_7 : decode zc_D_requireDistance 7 = .ok (.getfield 21, 3) := by decide +kernel
theorem zd_D_requireDistance_10 : decode zc_D_requireDistance 10 = .ok (.invokevirtual 52, 3) := by decide +kernel
theorem zd_D_requireDistance_13 : decode zc_D_requireDistance 13 = .ok (.if_icmp .le 7, 3) := by decide +kernel
theorem zd_D_requireDistance_16 : decode zc_D_requireDistance 16 = .ok (.iconst 1, 1) := by decide +kernel
theorem zd_D_requireDistance_17 : decode zc_D_requireDistance 17 = .ok (.goto 4, 3) := by decide +kernel
theorem zd_D_requireDistance_20 : decode zc_D_requireDistance 20 = .ok (.iconst 0, 1) := by decide +kernel
theorem zd_D_requireDistance_21 : decode zc_D_requireDistance 21 = .ok (.iload_n 2, 1) := by decide +kernel
theorem zd_D_requireDistance_22 : decode zc_D_requireDistance 22 = .ok (.invokevirtual 40, 3) := by decide +kernel
theorem zd_D_requireDistance_25 : decode zc_D_requireDistance 25 = .ok (.return_, 1) := by decide +kernel
theorem zd_D_requireRoom_0 : decode zc_D_requireRoom 0 = .ok (.aload_n 0, 1) := by decide +kernel
theorem zd_D_requireRoom_1 : decode zc_D_requireRoom 1 = .ok (.aload_n 0, 1) := by decide +kernel
theorem zd_D_requireRoom_2 : decode zc_D_requireRoom 2 = .ok (.getfield 13, 3) := by decide +kernel
theorem zd_D_requireRoom_5 : decode zc_D_requireRoom 5 = .ok (.getfield 37, 3) := by decide +kernel
theorem zd_D_requireRoom_8 : decode zc_D_requireRoom 8 = .ok (.iload_n 1, 1) := by decide +kernel
theorem zd_D_requireRoom_9 : decode zc_D_requireRoom 9 = .ok (.iadd, 1) := by decide +kernel
theorem zd_D_requireRoom_10 : decode zc_D_requireRoom 10 = .ok (.iload_n 2, 1) := by decide +kernel
theorem zd_D_requireRoom_11 : decode zc_D_requireRoom 11 = .ok (.if_icmp .le 7, 3) := by decide +kernel
theorem zd_D_requireRoom_14 : decode zc_D_requireRoom 14 = .ok (.iconst 1, 1) := by decide +kernel
theorem zd_D_requireRoom_15 : decode zc_D_requireRoom 15 = .ok (.goto 4, 3) := by decide +kernel
theorem zd_D_requireRoom_18 : decode zc_D_requireRoom 18 = .ok (.iconst 0, 1) := by decide +kernel
theorem zd_D_requireRoom_19 : decode zc_D_requireRoom 19 = .ok (.iload_n 3, 1) := by decide +kernel
theorem zd_D_requireRoom_20 : decode zc_D_requireRoom 20 = .ok (.invokevirtual 40, 3) := by decide +kernel
theorem zd_D_requireRoom_23 : decode zc_D_requireRoom 23 = .ok (.return_, 1) := by decide +kernel
theorem zd_D_copyLiterals_0 : decode zc_D_copyLiterals 0 = .ok (.iconst 0, 1) := by decide +kernel
theorem zd_D_copyLiterals_1 : decode zc_D_copyLiterals 1 = .ok (.istore_n 2, 1) := by decide +kernel
theorem zd_D_copyLiterals_2 : decode zc_D_copyLiterals 2 = .ok (.iload_n 2, 1) := by decide +kernel
theorem zd_D_copyLiterals_3 : decode zc_D_copyLiterals 3 = .ok (.iload_n 1, 1) := by decide +kernel
theorem zd_D_copyLiterals_4 : decode zc_D_copyLiterals 4 = .ok (.if_icmp .ge 27, 3) := by decide +kernel
theorem zd_D_copyLiterals_7 : decode zc_D_copyLiterals 7 = .ok (.aload_n 0, 1) := by decide +kernel
theorem zd_D_copyLiterals_8 : decode zc_D_copyLiterals 8 = .ok (.invokevirtual 55, 3) := by decide +kernel
theorem zd_D_copyLiterals_11 : decode zc_D_copyLiterals 11 = .ok (.ifCond .ne 20, 3) := by decide +kernel
theorem zd_D_copyLiterals_14 : decode zc_D_copyLiterals 14 = .ok (.aload_n 0, 1) := by decide +kernel
theorem zd_D_copyLiterals_15 : decode zc_D_copyLiterals 15 = .ok (.getfield 13, 3) := by decide +kernel
theorem zd_D_copyLiterals_18 : decode zc_D_copyLiterals 18 = .ok (.aload_n 0, 1) := by decide +kernel
theorem zd_D_copyLiterals_19 : decode zc_D_copyLiterals 19 = .ok (.invokevirtual 48, 3) := by decide +kernel
theorem zd_D_copyLiterals_22 : decode zc_D_copyLiterals 22 = .ok (.invokevirtual 59, 3) := by decide +kernel
theorem zd_D_copyLiterals_25 : decode zc_D_copyLiterals 25 = .ok (.iinc 2 1, 3) := by decide +kernel
theorem zd_D_copyLiterals_28 : decode zc_D_copyLiterals 28 = .ok (.goto (-26), 3) := by decide +kernel
theorem zd_D_copyLiterals_31 : decode zc_D_copyLiterals 31 = .ok (.return_, 1) := by decide +kernel
theorem zd_D_copyBack_0 : decode zc_D_copyBack 0 = .ok (.iconst 0, 1) := by decide +kernel
theorem zd_D_copyBack_1 : decode zc_D_copyBack 1 = .ok (.istore_n 3, 1) := by decide +kernel
theorem zd_D_copyBack_2 : decode zc_D_copyBack 2 = .ok (.iload_n 3, 1) := by decide +kernel
theorem zd_D_copyBack_3 : decode zc_D_copyBack 3 = .ok (.iload_n 2, 1) := by decide +kernel
theorem zd_D_copyBack_4 : decode zc_D_copyBack 4 = .ok (.if_icmp .ge 39, 3) := by decide +kernel
theorem zd_D_copyBack_7 : decode zc_D_copyBack 7 = .ok (.aload_n 0, 1) := by decide +kernel
theorem zd_D_copyBack_8 : decode zc_D_copyBack 8 = .ok (.invokevirtual 55, 3) := by decide +kernel
theorem zd_D_copyBack_11 : decode zc_D_copyBack 11 = .ok (.ifCond .ne 32, 3) := by decide +kernel
theorem zd_D_copyBack_14 : decode zc_D_copyBack 14 = .ok (.aload_n 0, 1) := by decide +kernel
theorem zd_D_copyBack_15 : decode zc_D_copyBack 15 = .ok (.getfield 13, 3) := by decide +kernel
theorem zd_D_copyBack_18 : decode zc_D_copyBack 18 = .ok (.aload_n 0, 1) := by decide +kernel
theorem zd_D_copyBack_19 : decode zc_D_copyBack 19 = .ok (.getfield 21, 3) := by decide +kernel
theorem zd_D_copyBack_22 : decode zc_D_copyBack 22 = .ok (.aload_n 0, 1) := by decide +kernel
theorem zd_D_copyBack_23 : decode zc_D_copyBack 23 = .ok (.getfield 21, 3) := by decide +kernel
theorem zd_D_copyBack_26 : decode zc_D_copyBack 26 = .ok (.invokevirtual 52, 3) := by decide +kernel
theorem zd_D_copyBack_29 : decode zc_D_copyBack 29 = .ok (.iload_n 1, 1) := by decide +kernel
theorem zd_D_copyBack_30 : decode zc_D_copyBack 30 = .ok (.isub, 1) := by decide +kernel
theorem zd_D_copyBack_31 : decode zc_D_copyBack 31 = .ok (.invokevirtual 63, 3) := by decide +kernel
theorem zd_D_copyBack_34 : decode zc_D_copyBack 34 = .ok (.invokevirtual 59, 3) := by decide +kernel
theorem zd_D_copyBack_37 : decode zc_D_copyBack 37 = .ok (.iinc 3 1, 3) := by decide +kernel
theorem zd_D_copyBack_40 : decode zc_D_copyBack 40 = .ok (.goto (-38), 3) := by decide +kernel
theorem zd_D_copyBack_43 : decode zc_D_copyBack 43 = .ok (.return_, 1) := by decide +kernel
theorem zd_R_room_0 : decode zc_R_room 0 = .ok (.aload_n 0, 1) := by decide +kernel
theorem zd_R_room_1 : decode zc_R_room 1 = .ok (.getfield 7, 3) := by decide +kernel
theorem zd_R_room_4 : decode zc_R_room 4 = .ok (.arraylength, 1) := by decide +kernel
theorem zd_R_room_5 : decode zc_R_room 5 = .ok (.aload_n 0, 1) := by decide +kernel
theorem zd_R_room_6 : decode zc_R_room 6 = .ok (.getfield 13, 3) := by decide +kernel
theorem zd_R_room_9 : decode zc_R_room 9 = .ok (.isub, 1) := by decide +kernel
