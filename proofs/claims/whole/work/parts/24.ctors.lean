theorem zd_ER_init_0 : decode zc_ER_init 0 = .ok (.aload_n 0, 1) := by decide +kernel
theorem zd_ER_init_1 : decode zc_ER_init 1 = .ok (.aload_n 1, 1) := by decide +kernel
theorem zd_ER_init_2 : decode zc_ER_init 2 = .ok (.aload_n 2, 1) := by decide +kernel
theorem zd_ER_init_3 : decode zc_ER_init 3 = .ok (.aload_n 3, 1) := by decide +kernel
theorem zd_ER_init_4 : decode zc_ER_init 4 = .ok (.invokespecial 3, 3) := by decide +kernel
theorem zd_ER_init_7 : decode zc_ER_init 7 = .ok (.return_, 1) := by decide +kernel
theorem zd_EW_init_0 : decode zc_EW_init 0 = .ok (.aload_n 0, 1) := by decide +kernel
theorem zd_EW_init_1 : decode zc_EW_init 1 = .ok (.aload_n 1, 1) := by decide +kernel
theorem zd_EW_init_2 : decode zc_EW_init 2 = .ok (.aload_n 2, 1) := by decide +kernel
theorem zd_EW_init_3 : decode zc_EW_init 3 = .ok (.invokespecial 1, 3) := by decide +kernel
theorem zd_EW_init_6 : decode zc_EW_init 6 = .ok (.return_, 1) := by decide +kernel
theorem zd_H_init_0 : decode zc_H_init 0 = .ok (.aload_n 0, 1) := by decide +kernel
theorem zd_H_init_1 : decode zc_H_init 1 = .ok (.invokespecial 1, 3) := by decide +kernel
theorem zd_H_init_4 : decode zc_H_init 4 = .ok (.aload_n 0, 1) := by decide +kernel
theorem zd_H_init_5 : decode zc_H_init 5 = .ok (.aload_n 1, 1) := by decide +kernel
theorem zd_H_init_6 : decode zc_H_init 6 = .ok (.putfield 7, 3) := by decide +kernel
theorem zd_H_init_9 : decode zc_H_init 9 = .ok (.aload_n 0, 1) := by decide +kernel
theorem zd_H_init_10 : decode zc_H_init 10 = .ok (.aload_n 2, 1) := by decide +kernel
theorem zd_H_init_11 : decode zc_H_init 11 = .ok (.putfield 13, 3) := by decide +kernel
theorem zd_H_init_14 : decode zc_H_init 14 = .ok (.return_, 1) := by decide +kernel
theorem zd_P_init_0 : decode zc_P_init 0 = .ok (.aload_n 0, 1) := by decide +kernel
theorem zd_P_init_1 : decode zc_P_init 1 = .ok (.invokespecial 1, 3) := by decide +kernel
theorem zd_P_init_4 : decode zc_P_init 4 = .ok (.aload_n 0, 1) := by decide +kernel
theorem zd_P_init_5 : decode zc_P_init 5 = .ok (.aload_n 1, 1) := by decide +kernel
theorem zd_P_init_6 : decode zc_P_init 6 = .ok (.putfield 7, 3) := by decide +kernel
theorem zd_P_init_9 : decode zc_P_init 9 = .ok (.aload_n 0, 1) := by decide +kernel
theorem zd_P_init_10 : decode zc_P_init 10 = .ok (.aload_n 2, 1) := by decide +kernel
theorem zd_P_init_11 : decode zc_P_init 11 = .ok (.putfield 13, 3) := by decide +kernel
theorem zd_P_init_14 : decode zc_P_init 14 = .ok (.aload_n 0, 1) := by decide +kernel
theorem zd_P_init_15 : decode zc_P_init 15 = .ok (.new 16, 3) := by decide +kernel
theorem zd_P_init_18 : decode zc_P_init 18 = .ok (.dup, 1) := by decide +kernel
theorem zd_P_init_19 : decode zc_P_init 19 = .ok (.aload_n 1, 1) := by decide +kernel
theorem zd_P_init_20 : decode zc_P_init 20 = .ok (.aload_n 2, 1) := by decide +kernel
theorem zd_P_init_21 : decode zc_P_init 21 = .ok (.invokespecial 18, 3) := by decide +kernel
theorem zd_P_init_24 : decode zc_P_init 24 = .ok (.putfield 21, 3) := by decide +kernel
theorem zd_P_init_27 : decode zc_P_init 27 = .ok (.aload_n 0, 1) := by decide +kernel
theorem zd_P_init_28 : decode zc_P_init 28 = .ok (.bipush 32, 2) := by decide +kernel
theorem zd_P_init_30 : decode zc_P_init 30 = .ok (.newarray .int, 2) := by decide +kernel
theorem zd_P_init_32 : decode zc_P_init 32 = .ok (.putfield 25, 3) := by decide +kernel
theorem zd_P_init_35 : decode zc_P_init 35 = .ok (.return_, 1) := by decide +kernel
theorem zd_D_init_0 : decode zc_D_init 0 = .ok (.aload_n 0, 1) := by decide +kernel
theorem zd_D_init_1 : decode zc_D_init 1 = .ok (.invokespecial 1, 3) := by decide +kernel
theorem zd_D_init_4 : decode zc_D_init 4 = .ok (.aload_n 0, 1) := by decide +kernel
theorem zd_D_init_5 : decode zc_D_init 5 = .ok (.aload_n 1, 1) := by decide +kernel
theorem zd_D_init_6 : decode zc_D_init 6 = .ok (.putfield 7, 3) := by decide +kernel
theorem zd_D_init_9 : decode zc_D_init 9 = .ok (.aload_n 0, 1) := by decide +kernel
theorem zd_D_init_10 : decode zc_D_init 10 = .ok (.aload_n 3, 1) := by decide +kernel
theorem zd_D_init_11 : decode zc_D_init 11 = .ok (.putfield 13, 3) := by decide +kernel
theorem zd_D_init_14 : decode zc_D_init 14 = .ok (.aload_n 0, 1) := by decide +kernel
theorem zd_D_init_15 : decode zc_D_init 15 = .ok (.new 16, 3) := by decide +kernel
theorem zd_D_init_18 : decode zc_D_init 18 = .ok (.dup, 1) := by decide +kernel
theorem zd_D_init_19 : decode zc_D_init 19 = .ok (.aload_n 2, 1) := by decide +kernel
theorem zd_D_init_20 : decode zc_D_init 20 = .ok (.aload_n 3, 1) := by decide +kernel
theorem zd_D_init_21 : decode zc_D_init 21 = .ok (.invokespecial 18, 3) := by decide +kernel
theorem zd_D_init_24 : decode zc_D_init 24 = .ok (.putfield 21, 3) := by decide +kernel
theorem zd_D_init_27 : decode zc_D_init 27 = .ok (.return_, 1) := by decide +kernel
theorem zd_R_init_0 : decode zc_R_init 0 = .ok (.aload_n 0, 1) := by decide +kernel
theorem zd_R_init_1 : decode zc_R_init 1 = .ok (.invokespecial 1, 3) := by decide +kernel
theorem zd_R_init_4 : decode zc_R_init 4 = .ok (.aload_n 0, 1) := by decide +kernel
theorem zd_R_init_5 : decode zc_R_init 5 = .ok (.iload_n 1, 1) := by decide +kernel
theorem zd_R_init_6 : decode zc_R_init 6 = .ok (.newarray .byte, 2) := by decide +kernel
theorem zd_R_init_8 : decode zc_R_init 8 = .ok (.putfield 7, 3) := by decide +kernel
theorem zd_R_init_11 : decode zc_R_init 11 = .ok (.return_, 1) := by decide +kernel
theorem zd_SR_init_0 : decode zc_SR_init 0 = .ok (.aload_n 0, 1) := by decide +kernel
theorem zd_SR_init_1 : decode zc_SR_init 1 = .ok (.aload_n 1, 1) := by decide +kernel
theorem zd_SR_init_2 : decode zc_SR_init 2 = .ok (.aload_n 2, 1) := by decide +kernel
theorem zd_SR_init_3 : decode zc_SR_init 3 = .ok (.aload_n 3, 1) := by decide +kernel
theorem zd_SR_init_4 : decode zc_SR_init 4 = .ok (.invokespecial 3, 3) := by decide +kernel
theorem zd_SR_init_7 : decode zc_SR_init 7 = .ok (.return_, 1) := by decide +kernel
theorem zd_SW_init_0 : decode zc_SW_init 0 = .ok (.aload_n 0, 1) := by decide +kernel
theorem zd_SW_init_1 : decode zc_SW_init 1 = .ok (.aload_n 1, 1) := by decide +kernel
theorem zd_SW_init_2 : decode zc_SW_init 2 = .ok (.aload_n 2, 1) := by decide +kernel
theorem zd_SW_init_3 : decode zc_SW_init 3 = .ok (.invokespecial 1, 3) := by decide +kernel
theorem zd_SW_init_6 : decode zc_SW_init 6 = .ok (.return_, 1) := by decide +kernel
theorem zd_W_init_0 : decode zc_W_init 0 = .ok (.aload_n 0, 1) := by decide +kernel
theorem zd_W_init_1 : decode zc_W_init 1 = .ok (.invokespecial 1, 3) := by decide +kernel
theorem zd_W_init_4 : decode zc_W_init 4 = .ok (.aload_n 0, 1) := by decide +kernel
theorem zd_W_init_5 : decode zc_W_init 5 = .ok (.aload_n 1, 1) := by decide +kernel
theorem zd_W_init_6 : decode zc_W_init 6 = .ok (.putfield 7, 3) := by decide +kernel
theorem zd_W_init_9 : decode zc_W_init 9 = .ok (.aload_n 0, 1) := by decide +kernel
theorem zd_W_init_10 : decode zc_W_init 10 = .ok (.aload_n 2, 1) := by decide +kernel
theorem zd_W_init_11 : decode zc_W_init 11 = .ok (.putfield 13, 3) := by decide +kernel
theorem zd_W_init_14 : decode zc_W_init 14 = .ok (.return_, 1) := by decide +kernel
theorem zd_X_init_0 : decode zc_X_init 0 = .ok (.aload_n 0, 1) := by decide +kernel
theorem zd_X_init_1 : decode zc_X_init 1 = .ok (.invokespecial 1, 3) := by decide +kernel
theorem zd_X_init_4 : decode zc_X_init 4 = .ok (.aload_n 0, 1) := by decide +kernel
theorem zd_X_init_5 : decode zc_X_init 5 = .ok (.new 7, 3) := by decide +kernel
theorem zd_X_init_8 : decode zc_X_init 8 = .ok (.dup, 1) := by decide +kernel
theorem zd_X_init_9 : decode zc_X_init 9 = .ok (.sipush 160, 3) := by decide +kernel
theorem zd_X_init_12 : decode zc_X_init 12 = .ok (.invokespecial 11, 3) := by decide +kernel
theorem zd_X_init_15 : decode zc_X_init 15 = .ok (.putfield 14, 3) := by decide +kernel
theorem zd_X_init_18 : decode zc_X_init 18 = .ok (.aload_n 0, 1) := by decide +kernel
theorem zd_X_init_19 : decode zc_X_init 19 = .ok (.new 7, 3) := by decide +kernel
theorem zd_X_init_22 : decode zc_X_init 22 = .ok (.dup, 1) := by decide +kernel
theorem zd_X_init_23 : decode zc_X_init 23 = .ok (.sipush 200, 3) := by decide +kernel
theorem zd_X_init_26 : decode zc_X_init 26 = .ok (.invokespecial 11, 3) := by decide +kernel
theorem zd_X_init_29 : decode zc_X_init 29 = .ok (.putfield 18, 3) := by decide +kernel
theorem zd_X_init_32 : decode zc_X_init 32 = .ok (.aload_n 0, 1) := by decide +kernel
theorem zd_X_init_33 : decode zc_X_init 33 = .ok (.new 7, 3) := by decide +kernel
theorem zd_X_init_36 : decode zc_X_init 36 = .ok (.dup, 1) := by decide +kernel
theorem zd_X_init_37 : decode zc_X_init 37 = .ok (.bipush 64, 2) := by decide +kernel
theorem zd_X_init_39 : decode zc_X_init 39 = .ok (.invokespecial 11, 3) := by decide +kernel
theorem zd_X_init_42 : decode zc_X_init 42 = .ok (.putfield 21, 3) := by decide +kernel
theorem zd_X_init_45 : decode zc_X_init 45 = .ok (.aload_n 0, 1) := by decide +kernel
theorem zd_X_init_46 : decode zc_X_init 46 = .ok (.new 7, 3) := by decide +kernel
theorem zd_X_init_49 : decode zc_X_init 49 = .ok (.dup, 1) := by decide +kernel
theorem zd_X_init_50 : decode zc_X_init 50 = .ok (.sipush 160, 3) := by decide +kernel
theorem zd_X_init_53 : decode zc_X_init 53 = .ok (.invokespecial 11, 3) := by decide +kernel
theorem zd_X_init_56 : decode zc_X_init 56 = .ok (.putfield 24, 3) := by decide +kernel
theorem zd_X_init_59 : decode zc_X_init 59 = .ok (.aload_n 0, 1) := by decide +kernel
theorem zd_X_init_60 : decode zc_X_init 60 = .ok (.new 27, 3) := by decide +kernel
theorem zd_X_init_63 : decode zc_X_init 63 = .ok (.dup, 1) := by decide +kernel
theorem zd_X_init_64 : decode zc_X_init 64 = .ok (.aload_n 0, 1) := by decide +kernel
theorem zd_X_init_65 : decode zc_X_init 65 = .ok (.getfield 21, 3) := by decide +kernel
theorem zd_X_init_68 : decode zc_X_init 68 = .ok (.aload_n 0, 1) := by decide +kernel
theorem zd_X_init_69 : decode zc_X_init 69 = .ok (.getfield 14, 3) := by decide +kernel
theorem zd_X_init_72 : decode zc_X_init 72 = .ok (.invokespecial 29, 3) := by decide +kernel
theorem zd_X_init_75 : decode zc_X_init 75 = .ok (.putfield 32, 3) := by decide +kernel
theorem zd_X_init_78 : decode zc_X_init 78 = .ok (.aload_n 0, 1) := by decide +kernel
theorem zd_X_init_79 : decode zc_X_init 79 = .ok (.new 36, 3) := by decide +kernel
theorem zd_X_init_82 : decode zc_X_init 82 = .ok (.dup, 1) := by decide +kernel
theorem zd_X_init_83 : decode zc_X_init 83 = .ok (.aload_n 0, 1) := by decide +kernel
theorem zd_X_init_84 : decode zc_X_init 84 = .ok (.getfield 14, 3) := by decide +kernel
theorem zd_X_init_87 : decode zc_X_init 87 = .ok (.aload_n 0, 1) := by decide +kernel
theorem zd_X_init_88 : decode zc_X_init 88 = .ok (.getfield 18, 3) := by decide +kernel
theorem zd_X_init_91 : decode zc_X_init 91 = .ok (.invokespecial 38, 3) := by decide +kernel
theorem zd_X_init_94 : decode zc_X_init 94 = .ok (.putfield 39, 3) := by decide +kernel
theorem zd_X_init_97 : decode zc_X_init 97 = .ok (.aload_n 0, 1) := by decide +kernel
theorem zd_X_init_98 : decode zc_X_init 98 = .ok (.new 43, 3) := by decide +kernel
theorem zd_X_init_101 : decode zc_X_init 101 = .ok (.dup, 1) := by decide +kernel
theorem zd_X_init_102 : decode zc_X_init 102 = .ok (.aload_n 0, 1) := by decide +kernel
theorem zd_X_init_103 : decode zc_X_init 103 = .ok (.getfield 14, 3) := by decide +kernel
theorem zd_X_init_106 : decode zc_X_init 106 = .ok (.aload_n 0, 1) := by decide +kernel
theorem zd_X_init_107 : decode zc_X_init 107 = .ok (.getfield 18, 3) := by decide +kernel
theorem zd_X_init_110 : decode zc_X_init 110 = .ok (.invokespecial 45, 3) := by decide +kernel
theorem zd_X_init_113 : decode zc_X_init 113 = .ok (.putfield 46, 3) := by decide +kernel
theorem zd_X_init_116 : decode zc_X_init 116 = .ok (.aload_n 0, 1) := by decide +kernel
theorem zd_X_init_117 : decode zc_X_init 117 = .ok (.new 49, 3) := by decide +kernel
theorem zd_X_init_120 : decode zc_X_init 120 = .ok (.dup, 1) := by decide +kernel
theorem zd_X_init_121 : decode zc_X_init 121 = .ok (.aload_n 0, 1) := by decide +kernel
theorem zd_X_init_122 : decode zc_X_init 122 = .ok (.getfield 18, 3) := by decide +kernel
theorem zd_X_init_125 : decode zc_X_init 125 = .ok (.aload_n 0, 1) := by decide +kernel
theorem zd_X_init_126 : decode zc_X_init 126 = .ok (.getfield 21, 3) := by decide +kernel
theorem zd_X_init_129 : decode zc_X_init 129 = .ok (.aload_n 0, 1) := by decide +kernel
theorem zd_X_init_130 : decode zc_X_init 130 = .ok (.getfield 24, 3) := by decide +kernel
theorem zd_X_init_133 : decode zc_X_init 133 = .ok (.invokespecial 51, 3) := by decide +kernel
theorem zd_X_init_136 : decode zc_X_init 136 = .ok (.putfield 54, 3) := by decide +kernel
theorem zd_X_init_139 : decode zc_X_init 139 = .ok (.aload_n 0, 1) := by decide +kernel
theorem zd_X_init_140 : decode zc_X_init 140 = .ok (.new 58, 3) := by decide +kernel
theorem zd_X_init_143 : decode zc_X_init 143 = .ok (.dup, 1) := by decide +kernel
theorem zd_X_init_144 : decode zc_X_init 144 = .ok (.aload_n 0, 1) := by decide +kernel
theorem zd_X_init_145 : decode zc_X_init 145 = .ok (.getfield 18, 3) := by decide +kernel
theorem zd_X_init_148 : decode zc_X_init 148 = .ok (.aload_n 0, 1) := by decide +kernel
theorem zd_X_init_149 : decode zc_X_init 149 = .ok (.getfield 21, 3) := by decide +kernel
theorem zd_X_init_152 : decode zc_X_init 152 = .ok (.aload_n 0, 1) := by decide +kernel
theorem zd_X_init_153 : decode zc_X_init 153 = .ok (.getfield 24, 3) := by decide +kernel
theorem zd_X_init_156 : decode zc_X_init 156 = .ok (.invokespecial 60, 3) := by decide +kernel
theorem zd_X_init_159 : decode zc_X_init 159 = .ok (.putfield 61, 3) := by decide +kernel
theorem zd_X_init_162 : decode zc_X_init 162 = .ok (.return_, 1) := by decide +kernel
theorem zd_M_init_0 : decode zc_M_init 0 = .ok (.aload_n 0, 1) := by decide +kernel
theorem zd_M_init_1 : decode zc_M_init 1 = .ok (.invokespecial 1, 3) := by decide +kernel
theorem zd_M_init_4 : decode zc_M_init 4 = .ok (.aload_n 0, 1) := by decide +kernel
theorem zd_M_init_5 : decode zc_M_init 5 = .ok (.sipush 600, 3) := by decide +kernel
theorem zd_M_init_8 : decode zc_M_init 8 = .ok (.newarray .int, 2) := by decide +kernel
theorem zd_M_init_10 : decode zc_M_init 10 = .ok (.putfield 7, 3) := by decide +kernel
theorem zd_M_init_13 : decode zc_M_init 13 = .ok (.aload_n 0, 1) := by decide +kernel
theorem zd_M_init_14 : decode zc_M_init 14 = .ok (.iconst 3, 1) := by decide +kernel
theorem zd_M_init_15 : decode zc_M_init 15 = .ok (.newarray .int, 2) := by decide +kernel
theorem zd_M_init_17 : decode zc_M_init 17 = .ok (.putfield 13, 3) := by decide +kernel
theorem zd_M_init_20 : decode zc_M_init 20 = .ok (.aload_n 0, 1) := by decide +kernel
theorem zd_M_init_21 : decode zc_M_init 21 = .ok (.sipush 224, 3) := by decide +kernel
theorem zd_M_init_24 : decode zc_M_init 24 = .ok (.newarray .int, 2) := by decide +kernel
theorem zd_M_init_26 : decode zc_M_init 26 = .ok (.putfield 16, 3) := by decide +kernel
theorem zd_M_init_29 : decode zc_M_init 29 = .ok (.aload_n 0, 1) := by decide +kernel
theorem zd_M_init_30 : decode zc_M_init 30 = .ok (.bipush 32, 2) := by decide +kernel
theorem zd_M_init_32 : decode zc_M_init 32 = .ok (.newarray .int, 2) := by decide +kernel
theorem zd_M_init_34 : decode zc_M_init 34 = .ok (.putfield 19, 3) := by decide +kernel
theorem zd_M_init_37 : decode zc_M_init 37 = .ok (.return_, 1) := by decide +kernel
theorem aw_544 : (Cond.methodLink RX9 1 objectInit) ∈ AW := aw_of 66 (by decide +kernel) (by decide +kernel)
theorem aw_545 : (Cond.instanceMethod objectInit) ∈ AW := aw_of 67 (by decide +kernel) (by decide +kernel)
theorem aw_546 : (Cond.code objectInit ⟨#[0xb1]⟩ 1 none) ∈ AW := aw_of 68 (by decide +kernel) (by decide +kernel)
theorem aw_547 : (Cond.classLink RX9 7 RX5) ∈ AW := aw_of 69 (by decide +kernel) (by decide +kernel)
theorem aw_548 : (Cond.instantiable RX5 2) ∈ AW := aw_of 70 (by decide +kernel) (by decide +kernel)
theorem aw_549 : (Cond.methodLink RX5 1 objectInit) ∈ AW := aw_of 74 (by decide +kernel) (by decide +kernel)
theorem aw_550 : (Cond.arrayClass .byte) ∈ AW := aw_of 90 (by decide +kernel) (by decide +kernel)
theorem aw_551 : (Cond.methodLink RX9 11 zy_R_init) ∈ AW := aw_of 71 (by decide +kernel) (by decide +kernel)
theorem aw_552 : (Cond.instanceMethod zy_R_init) ∈ AW := aw_of 72 (by decide +kernel) (by decide +kernel)
theorem aw_553 : (Cond.code zy_R_init zc_R_init 2 none) ∈ AW := aw_of 73 (by decide +kernel) (by decide +kernel)
theorem aw_554 : (Cond.classLink RX9 27 RX3) ∈ AW := aw_of 91 (by decide +kernel) (by decide +kernel)
theorem aw_555 : (Cond.instantiable RX3 7) ∈ AW := aw_of 92 (by decide +kernel) (by decide +kernel)
theorem aw_556 : (Cond.methodLink RX3 1 objectInit) ∈ AW := aw_of 96 (by decide +kernel) (by decide +kernel)
theorem aw_557 : (Cond.classLink RX3 16 RX2) ∈ AW := aw_of 97 (by decide +kernel) (by decide +kernel)
theorem aw_558 : (Cond.instantiable RX2 2) ∈ AW := aw_of 98 (by decide +kernel) (by decide +kernel)
theorem aw_559 : (Cond.methodLink RX2 1 objectInit) ∈ AW := aw_of 102 (by decide +kernel) (by decide +kernel)
theorem aw_560 : (Cond.methodLink RX3 18 zy_H_init) ∈ AW := aw_of 99 (by decide +kernel) (by decide +kernel)
theorem aw_561 : (Cond.instanceMethod zy_H_init) ∈ AW := aw_of 100 (by decide +kernel) (by decide +kernel)
theorem aw_562 : (Cond.code zy_H_init zc_H_init 3 none) ∈ AW := aw_of 101 (by decide +kernel) (by decide +kernel)
theorem aw_563 : (Cond.arrayClass .int) ∈ AW := aw_of 134 (by decide +kernel) (by decide +kernel)
theorem aw_564 : (Cond.methodLink RX9 29 zy_P_init) ∈ AW := aw_of 93 (by decide +kernel) (by decide +kernel)
theorem aw_565 : (Cond.instanceMethod zy_P_init) ∈ AW := aw_of 94 (by decide +kernel) (by decide +kernel)
theorem aw_566 : (Cond.code zy_P_init zc_P_init 3 none) ∈ AW := aw_of 95 (by decide +kernel) (by decide +kernel)
theorem aw_567 : (Cond.classLink RX9 36 RX7) ∈ AW := aw_of 135 (by decide +kernel) (by decide +kernel)
theorem aw_568 : (Cond.instantiable RX7 2) ∈ AW := aw_of 136 (by decide +kernel) (by decide +kernel)
theorem aw_569 : (Cond.methodLink RX8 1 objectInit) ∈ AW := aw_of 143 (by decide +kernel) (by decide +kernel)
theorem aw_570 : (Cond.methodLink RX7 1 zy_W_init) ∈ AW := aw_of 140 (by decide +kernel) (by decide +kernel)
theorem aw_571 : (Cond.instanceMethod zy_W_init) ∈ AW := aw_of 141 (by decide +kernel) (by decide +kernel)
theorem aw_572 : (Cond.code zy_W_init zc_W_init 3 none) ∈ AW := aw_of 142 (by decide +kernel) (by decide +kernel)
theorem aw_573 : (Cond.methodLink RX9 38 zy_SW_init) ∈ AW := aw_of 137 (by decide +kernel) (by decide +kernel)
theorem aw_574 : (Cond.instanceMethod zy_SW_init) ∈ AW := aw_of 138 (by decide +kernel) (by decide +kernel)
theorem aw_575 : (Cond.code zy_SW_init zc_SW_init 3 none) ∈ AW := aw_of 139 (by decide +kernel) (by decide +kernel)
theorem aw_576 : (Cond.classLink RX9 43 RX1) ∈ AW := aw_of 159 (by decide +kernel) (by decide +kernel)
theorem aw_577 : (Cond.instantiable RX1 2) ∈ AW := aw_of 160 (by decide +kernel) (by decide +kernel)
theorem aw_578 : (Cond.methodLink RX1 1 zy_W_init) ∈ AW := aw_of 164 (by decide +kernel) (by decide +kernel)
theorem aw_579 : (Cond.methodLink RX9 45 zy_EW_init) ∈ AW := aw_of 161 (by decide +kernel) (by decide +kernel)
theorem aw_580 : (Cond.instanceMethod zy_EW_init) ∈ AW := aw_of 162 (by decide +kernel) (by decide +kernel)
theorem aw_581 : (Cond.code zy_EW_init zc_EW_init 3 none) ∈ AW := aw_of 163 (by decide +kernel) (by decide +kernel)
theorem aw_582 : (Cond.classLink RX9 49 RX6) ∈ AW := aw_of 168 (by decide +kernel) (by decide +kernel)
theorem aw_583 : (Cond.instantiable RX6 5) ∈ AW := aw_of 169 (by decide +kernel) (by decide +kernel)
theorem aw_584 : (Cond.methodLink RX4 1 objectInit) ∈ AW := aw_of 176 (by decide +kernel) (by decide +kernel)
theorem aw_585 : (Cond.classLink RX4 16 RX2) ∈ AW := aw_of 177 (by decide +kernel) (by decide +kernel)
theorem aw_586 : (Cond.methodLink RX4 18 zy_H_init) ∈ AW := aw_of 178 (by decide +kernel) (by decide +kernel)
theorem aw_587 : (Cond.methodLink RX6 3 zy_D_init) ∈ AW := aw_of 173 (by decide +kernel) (by decide +kernel)
theorem aw_588 : (Cond.instanceMethod zy_D_init) ∈ AW := aw_of 174 (by decide +kernel) (by decide +kernel)
theorem aw_589 : (Cond.code zy_D_init zc_D_init 4 none) ∈ AW := aw_of 175 (by decide +kernel) (by decide +kernel)
theorem aw_590 : (Cond.methodLink RX9 51 zy_SR_init) ∈ AW := aw_of 170 (by decide +kernel) (by decide +kernel)
theorem aw_591 : (Cond.instanceMethod zy_SR_init) ∈ AW := aw_of 171 (by decide +kernel) (by decide +kernel)
theorem aw_592 : (Cond.code zy_SR_init zc_SR_init 4 none) ∈ AW := aw_of 172 (by decide +kernel) (by decide +kernel)
theorem aw_593 : (Cond.classLink RX9 58 RX0) ∈ AW := aw_of 206 (by decide +kernel) (by decide +kernel)
theorem aw_594 : (Cond.instantiable RX0 6) ∈ AW := aw_of 207 (by decide +kernel) (by decide +kernel)
theorem aw_595 : (Cond.methodLink RX0 3 zy_D_init) ∈ AW := aw_of 211 (by decide +kernel) (by decide +kernel)
theorem aw_596 : (Cond.methodLink RX9 60 zy_ER_init) ∈ AW := aw_of 208 (by decide +kernel) (by decide +kernel)
theorem aw_597 : (Cond.instanceMethod zy_ER_init) ∈ AW := aw_of 209 (by decide +kernel) (by decide +kernel)
theorem aw_598 : (Cond.code zy_ER_init zc_ER_init 4 none) ∈ AW := aw_of 210 (by decide +kernel) (by decide +kernel)
theorem aw_599 : (Cond.methodLink RX10 1 objectInit) ∈ AW := aw_of 699 (by decide +kernel) (by decide +kernel)
theorem oi_X_1 : Cond.methodLink RX9 1 objectInit ∈ AW ∧ Cond.instanceMethod objectInit ∈ AW ∧ Cond.code objectInit ⟨#[0xb1]⟩ 1 none ∈ AW := ⟨aw_544, aw_545, aw_546⟩
theorem cn_X_7 : Cond.classLink RX9 7 RX5 ∈ AW ∧ Cond.instantiable RX5 2 ∈ AW ∧ Cond.initialized RX5 ∈ AW ∧ (∀ w ∈ u_ws RX5 TX5 2, w ∈ AW) ∧ (∀ k, k < 2 → parseFieldDescriptor (TX5 k).2.2.1 = some (tyX5 k)) ∧ zCl[4]? = some (RX5, TX5, 2) := ⟨aw_547, aw_548, aw_7, uw_5, tyX5_ok, rfl⟩
theorem oi_R_1 : Cond.methodLink RX5 1 objectInit ∈ AW ∧ Cond.instanceMethod objectInit ∈ AW ∧ Cond.code objectInit ⟨#[0xb1]⟩ 1 none ∈ AW := ⟨aw_549, aw_545, aw_546⟩
theorem pf_R_7_R : (∀ w ∈ u_ws RX5 TX5 2, w ∈ AW) ∧ zCl[4]? = some (RX5, TX5, 2) ∧ 0 < 2 ∧ Cond.fieldLink RX5 7 (TX5 0).1 (TX5 0).2.1 (TX5 0).2.2.1 ∈ AW ∧ (∃ ty0 : Nat → FieldType, ∀ k, k < 2 → parseFieldDescriptor (TX5 k).2.2.1 = some (ty0 k)) ∧ (∀ a, a < 2 → ∀ b, b < 2 → a ≠ b → (TX5 a).2.1 ≠ (TX5 b).2.1) ∧ (TX5 0).2.2.2 = true ∧ (TX5 0).1 = RX5 ∧ parseFieldDescriptor (TX5 0).2.2.1 = some (.array .byte) := ⟨uw_5, rfl, by decide, aw_2, ⟨tyX5, tyX5_ok⟩, nmX5, rfl, rfl, by decide +kernel⟩
theorem ci_X_11 : Cond.methodLink RX9 11 zy_R_init ∈ AW ∧ Cond.instanceMethod zy_R_init ∈ AW ∧ Cond.initialized (zy_R_init).cls ∈ AW ∧ Cond.code zy_R_init zc_R_init 2 none ∈ AW ∧ (zy_R_init).name = "<init>" ∧ (zy_R_init).cls ≠ "java/lang/invoke/MethodHandle" ∧ (zy_R_init).cls ≠ "java/lang/invoke/VarHandle" ∧ (parseMethodDescriptor (zy_R_init).desc).map (fun d => d.parameters.length) = some 1 := ⟨aw_551, aw_552, aw_7, aw_553, rfl, by decide, by decide, by decide⟩
theorem pf_X_14_X : (∀ w ∈ u_ws RX9 TX9 9, w ∈ AW) ∧ zCl[7]? = some (RX9, TX9, 9) ∧ 0 < 9 ∧ Cond.fieldLink RX9 14 (TX9 0).1 (TX9 0).2.1 (TX9 0).2.2.1 ∈ AW ∧ (∃ ty0 : Nat → FieldType, ∀ k, k < 9 → parseFieldDescriptor (TX9 k).2.2.1 = some (ty0 k)) ∧ (∀ a, a < 9 → ∀ b, b < 9 → a ≠ b → (TX9 a).2.1 ≠ (TX9 b).2.1) ∧ (TX9 0).2.2.2 = true ∧ (TX9 0).1 = RX9 ∧ parseFieldDescriptor (TX9 0).2.2.1 = some (.object "PressSuite$Row") := ⟨uw_9, rfl, by decide, aw_490, ⟨tyX9, tyX9_ok⟩, nmX9, rfl, rfl, by decide +kernel⟩
theorem pf_X_18_X : (∀ w ∈ u_ws RX9 TX9 9, w ∈ AW) ∧ zCl[7]? = some (RX9, TX9, 9) ∧ 1 < 9 ∧ Cond.fieldLink RX9 18 (TX9 1).1 (TX9 1).2.1 (TX9 1).2.2.1 ∈ AW ∧ (∃ ty0 : Nat → FieldType, ∀ k, k < 9 → parseFieldDescriptor (TX9 k).2.2.1 = some (ty0 k)) ∧ (∀ a, a < 9 → ∀ b, b < 9 → a ≠ b → (TX9 a).2.1 ≠ (TX9 b).2.1) ∧ (TX9 1).2.2.2 = true ∧ (TX9 1).1 = RX9 ∧ parseFieldDescriptor (TX9 1).2.2.1 = some (.object "PressSuite$Row") := ⟨uw_9, rfl, by decide, aw_489, ⟨tyX9, tyX9_ok⟩, nmX9, rfl, rfl, by decide +kernel⟩
theorem pf_X_21_X : (∀ w ∈ u_ws RX9 TX9 9, w ∈ AW) ∧ zCl[7]? = some (RX9, TX9, 9) ∧ 2 < 9 ∧ Cond.fieldLink RX9 21 (TX9 2).1 (TX9 2).2.1 (TX9 2).2.2.1 ∈ AW ∧ (∃ ty0 : Nat → FieldType, ∀ k, k < 9 → parseFieldDescriptor (TX9 k).2.2.1 = some (ty0 k)) ∧ (∀ a, a < 9 → ∀ b, b < 9 → a ≠ b → (TX9 a).2.1 ≠ (TX9 b).2.1) ∧ (TX9 2).2.2.2 = true ∧ (TX9 2).1 = RX9 ∧ parseFieldDescriptor (TX9 2).2.2.1 = some (.object "PressSuite$Row") := ⟨uw_9, rfl, by decide, aw_488, ⟨tyX9, tyX9_ok⟩, nmX9, rfl, rfl, by decide +kernel⟩
theorem pf_X_24_X : (∀ w ∈ u_ws RX9 TX9 9, w ∈ AW) ∧ zCl[7]? = some (RX9, TX9, 9) ∧ 3 < 9 ∧ Cond.fieldLink RX9 24 (TX9 3).1 (TX9 3).2.1 (TX9 3).2.2.1 ∈ AW ∧ (∃ ty0 : Nat → FieldType, ∀ k, k < 9 → parseFieldDescriptor (TX9 k).2.2.1 = some (ty0 k)) ∧ (∀ a, a < 9 → ∀ b, b < 9 → a ≠ b → (TX9 a).2.1 ≠ (TX9 b).2.1) ∧ (TX9 3).2.2.2 = true ∧ (TX9 3).1 = RX9 ∧ parseFieldDescriptor (TX9 3).2.2.1 = some (.object "PressSuite$Row") := ⟨uw_9, rfl, by decide, aw_520, ⟨tyX9, tyX9_ok⟩, nmX9, rfl, rfl, by decide +kernel⟩
theorem cn_X_27 : Cond.classLink RX9 27 RX3 ∈ AW ∧ Cond.instantiable RX3 7 ∈ AW ∧ Cond.initialized RX3 ∈ AW ∧ (∀ w ∈ u_ws RX3 TX3 7, w ∈ AW) ∧ (∀ k, k < 7 → parseFieldDescriptor (TX3 k).2.2.1 = some (tyX3 k)) ∧ zCl[3]? = some (RX3, TX3, 7) := ⟨aw_554, aw_555, aw_48, uw_3, tyX3_ok, rfl⟩
theorem oi_P_1 : Cond.methodLink RX3 1 objectInit ∈ AW ∧ Cond.instanceMethod objectInit ∈ AW ∧ Cond.code objectInit ⟨#[0xb1]⟩ 1 none ∈ AW := ⟨aw_556, aw_545, aw_546⟩
theorem pf_P_7_P : (∀ w ∈ u_ws RX3 TX3 7, w ∈ AW) ∧ zCl[3]? = some (RX3, TX3, 7) ∧ 0 < 7 ∧ Cond.fieldLink RX3 7 (TX3 0).1 (TX3 0).2.1 (TX3 0).2.2.1 ∈ AW ∧ (∃ ty0 : Nat → FieldType, ∀ k, k < 7 → parseFieldDescriptor (TX3 k).2.2.1 = some (ty0 k)) ∧ (∀ a, a < 7 → ∀ b, b < 7 → a ≠ b → (TX3 a).2.1 ≠ (TX3 b).2.1) ∧ (TX3 0).2.2.2 = true ∧ (TX3 0).1 = RX3 ∧ parseFieldDescriptor (TX3 0).2.2.1 = some (.object "PressSuite$Row") := ⟨uw_3, rfl, by decide, aw_38, ⟨tyX3, tyX3_ok⟩, nmX3, rfl, rfl, by decide +kernel⟩
theorem pf_P_13_P : (∀ w ∈ u_ws RX3 TX3 7, w ∈ AW) ∧ zCl[3]? = some (RX3, TX3, 7) ∧ 1 < 7 ∧ Cond.fieldLink RX3 13 (TX3 1).1 (TX3 1).2.1 (TX3 1).2.2.1 ∈ AW ∧ (∃ ty0 : Nat → FieldType, ∀ k, k < 7 → parseFieldDescriptor (TX3 k).2.2.1 = some (ty0 k)) ∧ (∀ a, a < 7 → ∀ b, b < 7 → a ≠ b → (TX3 a).2.1 ≠ (TX3 b).2.1) ∧ (TX3 1).2.2.2 = true ∧ (TX3 1).1 = RX3 ∧ parseFieldDescriptor (TX3 1).2.2.1 = some (.object "PressSuite$Row") := ⟨uw_3, rfl, by decide, aw_65, ⟨tyX3, tyX3_ok⟩, nmX3, rfl, rfl, by decide +kernel⟩
theorem cn_P_16 : Cond.classLink RX3 16 RX2 ∈ AW ∧ Cond.instantiable RX2 2 ∈ AW ∧ Cond.initialized RX2 ∈ AW ∧ (∀ w ∈ u_ws RX2 TX2 2, w ∈ AW) ∧ (∀ k, k < 2 → parseFieldDescriptor (TX2 k).2.2.1 = some (tyX2 k)) ∧ zCl[2]? = some (RX2, TX2, 2) := ⟨aw_557, aw_558, aw_25, uw_2, tyX2_ok, rfl⟩
theorem oi_H_1 : Cond.methodLink RX2 1 objectInit ∈ AW ∧ Cond.instanceMethod objectInit ∈ AW ∧ Cond.code objectInit ⟨#[0xb1]⟩ 1 none ∈ AW := ⟨aw_559, aw_545, aw_546⟩
theorem pf_H_7_H : (∀ w ∈ u_ws RX2 TX2 2, w ∈ AW) ∧ zCl[2]? = some (RX2, TX2, 2) ∧ 0 < 2 ∧ Cond.fieldLink RX2 7 (TX2 0).1 (TX2 0).2.1 (TX2 0).2.2.1 ∈ AW ∧ (∃ ty0 : Nat → FieldType, ∀ k, k < 2 → parseFieldDescriptor (TX2 k).2.2.1 = some (ty0 k)) ∧ (∀ a, a < 2 → ∀ b, b < 2 → a ≠ b → (TX2 a).2.1 ≠ (TX2 b).2.1) ∧ (TX2 0).2.2.2 = true ∧ (TX2 0).1 = RX2 ∧ parseFieldDescriptor (TX2 0).2.2.1 = some (.object "PressSuite$Row") := ⟨uw_2, rfl, by decide, aw_19, ⟨tyX2, tyX2_ok⟩, nmX2, rfl, rfl, by decide +kernel⟩
theorem pf_H_13_H : (∀ w ∈ u_ws RX2 TX2 2, w ∈ AW) ∧ zCl[2]? = some (RX2, TX2, 2) ∧ 1 < 2 ∧ Cond.fieldLink RX2 13 (TX2 1).1 (TX2 1).2.1 (TX2 1).2.2.1 ∈ AW ∧ (∃ ty0 : Nat → FieldType, ∀ k, k < 2 → parseFieldDescriptor (TX2 k).2.2.1 = some (ty0 k)) ∧ (∀ a, a < 2 → ∀ b, b < 2 → a ≠ b → (TX2 a).2.1 ≠ (TX2 b).2.1) ∧ (TX2 1).2.2.2 = true ∧ (TX2 1).1 = RX2 ∧ parseFieldDescriptor (TX2 1).2.2.1 = some (.object "PressSuite$Row") := ⟨uw_2, rfl, by decide, aw_20, ⟨tyX2, tyX2_ok⟩, nmX2, rfl, rfl, by decide +kernel⟩
theorem ci_P_18 : Cond.methodLink RX3 18 zy_H_init ∈ AW ∧ Cond.instanceMethod zy_H_init ∈ AW ∧ Cond.initialized (zy_H_init).cls ∈ AW ∧ Cond.code zy_H_init zc_H_init 3 none ∈ AW ∧ (zy_H_init).name = "<init>" ∧ (zy_H_init).cls ≠ "java/lang/invoke/MethodHandle" ∧ (zy_H_init).cls ≠ "java/lang/invoke/VarHandle" ∧ (parseMethodDescriptor (zy_H_init).desc).map (fun d => d.parameters.length) = some 2 := ⟨aw_560, aw_561, aw_25, aw_562, rfl, by decide, by decide, by decide⟩
theorem pf_P_21_P : (∀ w ∈ u_ws RX3 TX3 7, w ∈ AW) ∧ zCl[3]? = some (RX3, TX3, 7) ∧ 2 < 7 ∧ Cond.fieldLink RX3 21 (TX3 2).1 (TX3 2).2.1 (TX3 2).2.2.1 ∈ AW ∧ (∃ ty0 : Nat → FieldType, ∀ k, k < 7 → parseFieldDescriptor (TX3 k).2.2.1 = some (ty0 k)) ∧ (∀ a, a < 7 → ∀ b, b < 7 → a ≠ b → (TX3 a).2.1 ≠ (TX3 b).2.1) ∧ (TX3 2).2.2.2 = true ∧ (TX3 2).1 = RX3 ∧ parseFieldDescriptor (TX3 2).2.2.1 = some (.object "PressSuite$History") := ⟨uw_3, rfl, by decide, aw_39, ⟨tyX3, tyX3_ok⟩, nmX3, rfl, rfl, by decide +kernel⟩
theorem pf_P_25_P : (∀ w ∈ u_ws RX3 TX3 7, w ∈ AW) ∧ zCl[3]? = some (RX3, TX3, 7) ∧ 3 < 7 ∧ Cond.fieldLink RX3 25 (TX3 3).1 (TX3 3).2.1 (TX3 3).2.2.1 ∈ AW ∧ (∃ ty0 : Nat → FieldType, ∀ k, k < 7 → parseFieldDescriptor (TX3 k).2.2.1 = some (ty0 k)) ∧ (∀ a, a < 7 → ∀ b, b < 7 → a ≠ b → (TX3 a).2.1 ≠ (TX3 b).2.1) ∧ (TX3 3).2.2.2 = true ∧ (TX3 3).1 = RX3 ∧ parseFieldDescriptor (TX3 3).2.2.1 = some (.array .int) := ⟨uw_3, rfl, by decide, aw_37, ⟨tyX3, tyX3_ok⟩, nmX3, rfl, rfl, by decide +kernel⟩
theorem ci_X_29 : Cond.methodLink RX9 29 zy_P_init ∈ AW ∧ Cond.instanceMethod zy_P_init ∈ AW ∧ Cond.initialized (zy_P_init).cls ∈ AW ∧ Cond.code zy_P_init zc_P_init 3 none ∈ AW ∧ (zy_P_init).name = "<init>" ∧ (zy_P_init).cls ≠ "java/lang/invoke/MethodHandle" ∧ (zy_P_init).cls ≠ "java/lang/invoke/VarHandle" ∧ (parseMethodDescriptor (zy_P_init).desc).map (fun d => d.parameters.length) = some 2 := ⟨aw_564, aw_565, aw_48, aw_566, rfl, by decide, by decide, by decide⟩
theorem pf_X_32_X : (∀ w ∈ u_ws RX9 TX9 9, w ∈ AW) ∧ zCl[7]? = some (RX9, TX9, 9) ∧ 4 < 9 ∧ Cond.fieldLink RX9 32 (TX9 4).1 (TX9 4).2.1 (TX9 4).2.2.1 ∈ AW ∧ (∃ ty0 : Nat → FieldType, ∀ k, k < 9 → parseFieldDescriptor (TX9 k).2.2.1 = some (ty0 k)) ∧ (∀ a, a < 9 → ∀ b, b < 9 → a ≠ b → (TX9 a).2.1 ≠ (TX9 b).2.1) ∧ (TX9 4).2.2.2 = true ∧ (TX9 4).1 = RX9 ∧ parseFieldDescriptor (TX9 4).2.2.1 = some (.object "PressSuite$Packer") := ⟨uw_9, rfl, by decide, aw_503, ⟨tyX9, tyX9_ok⟩, nmX9, rfl, rfl, by decide +kernel⟩
theorem cn_X_36 : Cond.classLink RX9 36 RX7 ∈ AW ∧ Cond.instantiable RX7 2 ∈ AW ∧ Cond.initialized RX7 ∈ AW ∧ (∀ w ∈ u_ws RX7 TX7 2, w ∈ AW) ∧ (∀ k, k < 2 → parseFieldDescriptor (TX7 k).2.2.1 = some (tyX7 k)) ∧ zCl[6]? = some (RX7, TX7, 2) := ⟨aw_567, aw_568, aw_63, uw_7, tyX7_ok, rfl⟩
theorem oi_W_1 : Cond.methodLink RX8 1 objectInit ∈ AW ∧ Cond.instanceMethod objectInit ∈ AW ∧ Cond.code objectInit ⟨#[0xb1]⟩ 1 none ∈ AW := ⟨aw_569, aw_545, aw_546⟩
theorem pf_W_7_SW : (∀ w ∈ u_ws RX7 TX7 2, w ∈ AW) ∧ zCl[6]? = some (RX7, TX7, 2) ∧ 0 < 2 ∧ Cond.fieldLink RX8 7 (TX7 0).1 (TX7 0).2.1 (TX7 0).2.2.1 ∈ AW ∧ (∃ ty0 : Nat → FieldType, ∀ k, k < 2 → parseFieldDescriptor (TX7 k).2.2.1 = some (ty0 k)) ∧ (∀ a, a < 2 → ∀ b, b < 2 → a ≠ b → (TX7 a).2.1 ≠ (TX7 b).2.1) ∧ (TX7 0).2.2.2 = true ∧ (TX7 0).1 = RX8 ∧ parseFieldDescriptor (TX7 0).2.2.1 = some (.object "PressSuite$Row") := ⟨uw_7, rfl, by decide, aw_85, ⟨tyX7, tyX7_ok⟩, nmX7, rfl, rfl, by decide +kernel⟩
theorem pf_W_13_SW : (∀ w ∈ u_ws RX7 TX7 2, w ∈ AW) ∧ zCl[6]? = some (RX7, TX7, 2) ∧ 1 < 2 ∧ Cond.fieldLink RX8 13 (TX7 1).1 (TX7 1).2.1 (TX7 1).2.2.1 ∈ AW ∧ (∃ ty0 : Nat → FieldType, ∀ k, k < 2 → parseFieldDescriptor (TX7 k).2.2.1 = some (ty0 k)) ∧ (∀ a, a < 2 → ∀ b, b < 2 → a ≠ b → (TX7 a).2.1 ≠ (TX7 b).2.1) ∧ (TX7 1).2.2.2 = true ∧ (TX7 1).1 = RX8 ∧ parseFieldDescriptor (TX7 1).2.2.1 = some (.object "PressSuite$Row") := ⟨uw_7, rfl, by decide, aw_84, ⟨tyX7, tyX7_ok⟩, nmX7, rfl, rfl, by decide +kernel⟩
theorem ci_SW_1 : Cond.methodLink RX7 1 zy_W_init ∈ AW ∧ Cond.instanceMethod zy_W_init ∈ AW ∧ Cond.initialized (zy_W_init).cls ∈ AW ∧ Cond.code zy_W_init zc_W_init 3 none ∈ AW ∧ (zy_W_init).name = "<init>" ∧ (zy_W_init).cls ≠ "java/lang/invoke/MethodHandle" ∧ (zy_W_init).cls ≠ "java/lang/invoke/VarHandle" ∧ (parseMethodDescriptor (zy_W_init).desc).map (fun d => d.parameters.length) = some 2 := ⟨aw_570, aw_571, aw_92, aw_572, rfl, by decide, by decide, by decide⟩
theorem ci_X_38 : Cond.methodLink RX9 38 zy_SW_init ∈ AW ∧ Cond.instanceMethod zy_SW_init ∈ AW ∧ Cond.initialized (zy_SW_init).cls ∈ AW ∧ Cond.code zy_SW_init zc_SW_init 3 none ∈ AW ∧ (zy_SW_init).name = "<init>" ∧ (zy_SW_init).cls ≠ "java/lang/invoke/MethodHandle" ∧ (zy_SW_init).cls ≠ "java/lang/invoke/VarHandle" ∧ (parseMethodDescriptor (zy_SW_init).desc).map (fun d => d.parameters.length) = some 2 := ⟨aw_573, aw_574, aw_63, aw_575, rfl, by decide, by decide, by decide⟩
theorem pf_X_39_X : (∀ w ∈ u_ws RX9 TX9 9, w ∈ AW) ∧ zCl[7]? = some (RX9, TX9, 9) ∧ 5 < 9 ∧ Cond.fieldLink RX9 39 (TX9 5).1 (TX9 5).2.1 (TX9 5).2.2.1 ∈ AW ∧ (∃ ty0 : Nat → FieldType, ∀ k, k < 9 → parseFieldDescriptor (TX9 k).2.2.1 = some (ty0 k)) ∧ (∀ a, a < 9 → ∀ b, b < 9 → a ≠ b → (TX9 a).2.1 ≠ (TX9 b).2.1) ∧ (TX9 5).2.2.2 = true ∧ (TX9 5).1 = RX9 ∧ parseFieldDescriptor (TX9 5).2.2.1 = some (.object "PressSuite$Writer") := ⟨uw_9, rfl, by decide, aw_505, ⟨tyX9, tyX9_ok⟩, nmX9, rfl, rfl, by decide +kernel⟩
theorem cn_X_43 : Cond.classLink RX9 43 RX1 ∈ AW ∧ Cond.instantiable RX1 2 ∈ AW ∧ Cond.initialized RX1 ∈ AW ∧ (∀ w ∈ u_ws RX1 TX1 2, w ∈ AW) ∧ (∀ k, k < 2 → parseFieldDescriptor (TX1 k).2.2.1 = some (tyX1 k)) ∧ zCl[1]? = some (RX1, TX1, 2) := ⟨aw_576, aw_577, aw_127, uw_1, tyX1_ok, rfl⟩
theorem pf_W_7_EW : (∀ w ∈ u_ws RX1 TX1 2, w ∈ AW) ∧ zCl[1]? = some (RX1, TX1, 2) ∧ 0 < 2 ∧ Cond.fieldLink RX8 7 (TX1 0).1 (TX1 0).2.1 (TX1 0).2.2.1 ∈ AW ∧ (∃ ty0 : Nat → FieldType, ∀ k, k < 2 → parseFieldDescriptor (TX1 k).2.2.1 = some (ty0 k)) ∧ (∀ a, a < 2 → ∀ b, b < 2 → a ≠ b → (TX1 a).2.1 ≠ (TX1 b).2.1) ∧ (TX1 0).2.2.2 = true ∧ (TX1 0).1 = RX8 ∧ parseFieldDescriptor (TX1 0).2.2.1 = some (.object "PressSuite$Row") := ⟨uw_1, rfl, by decide, aw_85, ⟨tyX1, tyX1_ok⟩, nmX1, rfl, rfl, by decide +kernel⟩
theorem pf_W_13_EW : (∀ w ∈ u_ws RX1 TX1 2, w ∈ AW) ∧ zCl[1]? = some (RX1, TX1, 2) ∧ 1 < 2 ∧ Cond.fieldLink RX8 13 (TX1 1).1 (TX1 1).2.1 (TX1 1).2.2.1 ∈ AW ∧ (∃ ty0 : Nat → FieldType, ∀ k, k < 2 → parseFieldDescriptor (TX1 k).2.2.1 = some (ty0 k)) ∧ (∀ a, a < 2 → ∀ b, b < 2 → a ≠ b → (TX1 a).2.1 ≠ (TX1 b).2.1) ∧ (TX1 1).2.2.2 = true ∧ (TX1 1).1 = RX8 ∧ parseFieldDescriptor (TX1 1).2.2.1 = some (.object "PressSuite$Row") := ⟨uw_1, rfl, by decide, aw_84, ⟨tyX1, tyX1_ok⟩, nmX1, rfl, rfl, by decide +kernel⟩
theorem ci_EW_1 : Cond.methodLink RX1 1 zy_W_init ∈ AW ∧ Cond.instanceMethod zy_W_init ∈ AW ∧ Cond.initialized (zy_W_init).cls ∈ AW ∧ Cond.code zy_W_init zc_W_init 3 none ∈ AW ∧ (zy_W_init).name = "<init>" ∧ (zy_W_init).cls ≠ "java/lang/invoke/MethodHandle" ∧ (zy_W_init).cls ≠ "java/lang/invoke/VarHandle" ∧ (parseMethodDescriptor (zy_W_init).desc).map (fun d => d.parameters.length) = some 2 := ⟨aw_578, aw_571, aw_92, aw_572, rfl, by decide, by decide, by decide⟩
theorem ci_X_45 : Cond.methodLink RX9 45 zy_EW_init ∈ AW ∧ Cond.instanceMethod zy_EW_init ∈ AW ∧ Cond.initialized (zy_EW_init).cls ∈ AW ∧ Cond.code zy_EW_init zc_EW_init 3 none ∈ AW ∧ (zy_EW_init).name = "<init>" ∧ (zy_EW_init).cls ≠ "java/lang/invoke/MethodHandle" ∧ (zy_EW_init).cls ≠ "java/lang/invoke/VarHandle" ∧ (parseMethodDescriptor (zy_EW_init).desc).map (fun d => d.parameters.length) = some 2 := ⟨aw_579, aw_580, aw_127, aw_581, rfl, by decide, by decide, by decide⟩
theorem pf_X_46_X : (∀ w ∈ u_ws RX9 TX9 9, w ∈ AW) ∧ zCl[7]? = some (RX9, TX9, 9) ∧ 6 < 9 ∧ Cond.fieldLink RX9 46 (TX9 6).1 (TX9 6).2.1 (TX9 6).2.2.1 ∈ AW ∧ (∃ ty0 : Nat → FieldType, ∀ k, k < 9 → parseFieldDescriptor (TX9 k).2.2.1 = some (ty0 k)) ∧ (∀ a, a < 9 → ∀ b, b < 9 → a ≠ b → (TX9 a).2.1 ≠ (TX9 b).2.1) ∧ (TX9 6).2.2.2 = true ∧ (TX9 6).1 = RX9 ∧ parseFieldDescriptor (TX9 6).2.2.1 = some (.object "PressSuite$Writer") := ⟨uw_9, rfl, by decide, aw_504, ⟨tyX9, tyX9_ok⟩, nmX9, rfl, rfl, by decide +kernel⟩
theorem cn_X_49 : Cond.classLink RX9 49 RX6 ∈ AW ∧ Cond.instantiable RX6 5 ∈ AW ∧ Cond.initialized RX6 ∈ AW ∧ (∀ w ∈ u_ws RX6 TX6 5, w ∈ AW) ∧ (∀ k, k < 5 → parseFieldDescriptor (TX6 k).2.2.1 = some (tyX6 k)) ∧ zCl[5]? = some (RX6, TX6, 5) := ⟨aw_582, aw_583, aw_177, uw_6, tyX6_ok, rfl⟩
theorem oi_D_1 : Cond.methodLink RX4 1 objectInit ∈ AW ∧ Cond.instanceMethod objectInit ∈ AW ∧ Cond.code objectInit ⟨#[0xb1]⟩ 1 none ∈ AW := ⟨aw_584, aw_545, aw_546⟩
theorem pf_D_7_SR : (∀ w ∈ u_ws RX6 TX6 5, w ∈ AW) ∧ zCl[5]? = some (RX6, TX6, 5) ∧ 0 < 5 ∧ Cond.fieldLink RX4 7 (TX6 0).1 (TX6 0).2.1 (TX6 0).2.2.1 ∈ AW ∧ (∃ ty0 : Nat → FieldType, ∀ k, k < 5 → parseFieldDescriptor (TX6 k).2.2.1 = some (ty0 k)) ∧ (∀ a, a < 5 → ∀ b, b < 5 → a ≠ b → (TX6 a).2.1 ≠ (TX6 b).2.1) ∧ (TX6 0).2.2.2 = true ∧ (TX6 0).1 = RX4 ∧ parseFieldDescriptor (TX6 0).2.2.1 = some (.object "PressSuite$Row") := ⟨uw_6, rfl, by decide, aw_160, ⟨tyX6, tyX6_ok⟩, nmX6, rfl, rfl, by decide +kernel⟩
theorem pf_D_13_SR : (∀ w ∈ u_ws RX6 TX6 5, w ∈ AW) ∧ zCl[5]? = some (RX6, TX6, 5) ∧ 1 < 5 ∧ Cond.fieldLink RX4 13 (TX6 1).1 (TX6 1).2.1 (TX6 1).2.2.1 ∈ AW ∧ (∃ ty0 : Nat → FieldType, ∀ k, k < 5 → parseFieldDescriptor (TX6 k).2.2.1 = some (ty0 k)) ∧ (∀ a, a < 5 → ∀ b, b < 5 → a ≠ b → (TX6 a).2.1 ≠ (TX6 b).2.1) ∧ (TX6 1).2.2.2 = true ∧ (TX6 1).1 = RX4 ∧ parseFieldDescriptor (TX6 1).2.2.1 = some (.object "PressSuite$Row") := ⟨uw_6, rfl, by decide, aw_179, ⟨tyX6, tyX6_ok⟩, nmX6, rfl, rfl, by decide +kernel⟩
theorem cn_D_16 : Cond.classLink RX4 16 RX2 ∈ AW ∧ Cond.instantiable RX2 2 ∈ AW ∧ Cond.initialized RX2 ∈ AW ∧ (∀ w ∈ u_ws RX2 TX2 2, w ∈ AW) ∧ (∀ k, k < 2 → parseFieldDescriptor (TX2 k).2.2.1 = some (tyX2 k)) ∧ zCl[2]? = some (RX2, TX2, 2) := ⟨aw_585, aw_558, aw_25, uw_2, tyX2_ok, rfl⟩
theorem ci_D_18 : Cond.methodLink RX4 18 zy_H_init ∈ AW ∧ Cond.instanceMethod zy_H_init ∈ AW ∧ Cond.initialized (zy_H_init).cls ∈ AW ∧ Cond.code zy_H_init zc_H_init 3 none ∈ AW ∧ (zy_H_init).name = "<init>" ∧ (zy_H_init).cls ≠ "java/lang/invoke/MethodHandle" ∧ (zy_H_init).cls ≠ "java/lang/invoke/VarHandle" ∧ (parseMethodDescriptor (zy_H_init).desc).map (fun d => d.parameters.length) = some 2 := ⟨aw_586, aw_561, aw_25, aw_562, rfl, by decide, by decide, by decide⟩
theorem pf_D_21_SR : (∀ w ∈ u_ws RX6 TX6 5, w ∈ AW) ∧ zCl[5]? = some (RX6, TX6, 5) ∧ 2 < 5 ∧ Cond.fieldLink RX4 21 (TX6 2).1 (TX6 2).2.1 (TX6 2).2.2.1 ∈ AW ∧ (∃ ty0 : Nat → FieldType, ∀ k, k < 5 → parseFieldDescriptor (TX6 k).2.2.1 = some (ty0 k)) ∧ (∀ a, a < 5 → ∀ b, b < 5 → a ≠ b → (TX6 a).2.1 ≠ (TX6 b).2.1) ∧ (TX6 2).2.2.2 = true ∧ (TX6 2).1 = RX4 ∧ parseFieldDescriptor (TX6 2).2.2.1 = some (.object "PressSuite$History") := ⟨uw_6, rfl, by decide, aw_212, ⟨tyX6, tyX6_ok⟩, nmX6, rfl, rfl, by decide +kernel⟩
theorem ci_SR_3 : Cond.methodLink RX6 3 zy_D_init ∈ AW ∧ Cond.instanceMethod zy_D_init ∈ AW ∧ Cond.initialized (zy_D_init).cls ∈ AW ∧ Cond.code zy_D_init zc_D_init 4 none ∈ AW ∧ (zy_D_init).name = "<init>" ∧ (zy_D_init).cls ≠ "java/lang/invoke/MethodHandle" ∧ (zy_D_init).cls ≠ "java/lang/invoke/VarHandle" ∧ (parseMethodDescriptor (zy_D_init).desc).map (fun d => d.parameters.length) = some 3 := ⟨aw_587, aw_588, aw_166, aw_589, rfl, by decide, by decide, by decide⟩
theorem ci_X_51 : Cond.methodLink RX9 51 zy_SR_init ∈ AW ∧ Cond.instanceMethod zy_SR_init ∈ AW ∧ Cond.initialized (zy_SR_init).cls ∈ AW ∧ Cond.code zy_SR_init zc_SR_init 4 none ∈ AW ∧ (zy_SR_init).name = "<init>" ∧ (zy_SR_init).cls ≠ "java/lang/invoke/MethodHandle" ∧ (zy_SR_init).cls ≠ "java/lang/invoke/VarHandle" ∧ (parseMethodDescriptor (zy_SR_init).desc).map (fun d => d.parameters.length) = some 3 := ⟨aw_590, aw_591, aw_177, aw_592, rfl, by decide, by decide, by decide⟩
theorem pf_X_54_X : (∀ w ∈ u_ws RX9 TX9 9, w ∈ AW) ∧ zCl[7]? = some (RX9, TX9, 9) ∧ 7 < 9 ∧ Cond.fieldLink RX9 54 (TX9 7).1 (TX9 7).2.1 (TX9 7).2.2.1 ∈ AW ∧ (∃ ty0 : Nat → FieldType, ∀ k, k < 9 → parseFieldDescriptor (TX9 k).2.2.1 = some (ty0 k)) ∧ (∀ a, a < 9 → ∀ b, b < 9 → a ≠ b → (TX9 a).2.1 ≠ (TX9 b).2.1) ∧ (TX9 7).2.2.2 = true ∧ (TX9 7).1 = RX9 ∧ parseFieldDescriptor (TX9 7).2.2.1 = some (.object "PressSuite$Reader") := ⟨uw_9, rfl, by decide, aw_510, ⟨tyX9, tyX9_ok⟩, nmX9, rfl, rfl, by decide +kernel⟩
theorem cn_X_58 : Cond.classLink RX9 58 RX0 ∈ AW ∧ Cond.instantiable RX0 6 ∈ AW ∧ Cond.initialized RX0 ∈ AW ∧ (∀ w ∈ u_ws RX0 TX0 6, w ∈ AW) ∧ (∀ k, k < 6 → parseFieldDescriptor (TX0 k).2.2.1 = some (tyX0 k)) ∧ zCl[0]? = some (RX0, TX0, 6) := ⟨aw_593, aw_594, aw_247, uw_0, tyX0_ok, rfl⟩
theorem pf_D_7_ER : (∀ w ∈ u_ws RX0 TX0 6, w ∈ AW) ∧ zCl[0]? = some (RX0, TX0, 6) ∧ 0 < 6 ∧ Cond.fieldLink RX4 7 (TX0 0).1 (TX0 0).2.1 (TX0 0).2.2.1 ∈ AW ∧ (∃ ty0 : Nat → FieldType, ∀ k, k < 6 → parseFieldDescriptor (TX0 k).2.2.1 = some (ty0 k)) ∧ (∀ a, a < 6 → ∀ b, b < 6 → a ≠ b → (TX0 a).2.1 ≠ (TX0 b).2.1) ∧ (TX0 0).2.2.2 = true ∧ (TX0 0).1 = RX4 ∧ parseFieldDescriptor (TX0 0).2.2.1 = some (.object "PressSuite$Row") := ⟨uw_0, rfl, by decide, aw_160, ⟨tyX0, tyX0_ok⟩, nmX0, rfl, rfl, by decide +kernel⟩
theorem pf_D_13_ER : (∀ w ∈ u_ws RX0 TX0 6, w ∈ AW) ∧ zCl[0]? = some (RX0, TX0, 6) ∧ 1 < 6 ∧ Cond.fieldLink RX4 13 (TX0 1).1 (TX0 1).2.1 (TX0 1).2.2.1 ∈ AW ∧ (∃ ty0 : Nat → FieldType, ∀ k, k < 6 → parseFieldDescriptor (TX0 k).2.2.1 = some (ty0 k)) ∧ (∀ a, a < 6 → ∀ b, b < 6 → a ≠ b → (TX0 a).2.1 ≠ (TX0 b).2.1) ∧ (TX0 1).2.2.2 = true ∧ (TX0 1).1 = RX4 ∧ parseFieldDescriptor (TX0 1).2.2.1 = some (.object "PressSuite$Row") := ⟨uw_0, rfl, by decide, aw_179, ⟨tyX0, tyX0_ok⟩, nmX0, rfl, rfl, by decide +kernel⟩
theorem pf_D_21_ER : (∀ w ∈ u_ws RX0 TX0 6, w ∈ AW) ∧ zCl[0]? = some (RX0, TX0, 6) ∧ 2 < 6 ∧ Cond.fieldLink RX4 21 (TX0 2).1 (TX0 2).2.1 (TX0 2).2.2.1 ∈ AW ∧ (∃ ty0 : Nat → FieldType, ∀ k, k < 6 → parseFieldDescriptor (TX0 k).2.2.1 = some (ty0 k)) ∧ (∀ a, a < 6 → ∀ b, b < 6 → a ≠ b → (TX0 a).2.1 ≠ (TX0 b).2.1) ∧ (TX0 2).2.2.2 = true ∧ (TX0 2).1 = RX4 ∧ parseFieldDescriptor (TX0 2).2.2.1 = some (.object "PressSuite$History") := ⟨uw_0, rfl, by decide, aw_212, ⟨tyX0, tyX0_ok⟩, nmX0, rfl, rfl, by decide +kernel⟩
theorem ci_ER_3 : Cond.methodLink RX0 3 zy_D_init ∈ AW ∧ Cond.instanceMethod zy_D_init ∈ AW ∧ Cond.initialized (zy_D_init).cls ∈ AW ∧ Cond.code zy_D_init zc_D_init 4 none ∈ AW ∧ (zy_D_init).name = "<init>" ∧ (zy_D_init).cls ≠ "java/lang/invoke/MethodHandle" ∧ (zy_D_init).cls ≠ "java/lang/invoke/VarHandle" ∧ (parseMethodDescriptor (zy_D_init).desc).map (fun d => d.parameters.length) = some 3 := ⟨aw_595, aw_588, aw_166, aw_589, rfl, by decide, by decide, by decide⟩
theorem ci_X_60 : Cond.methodLink RX9 60 zy_ER_init ∈ AW ∧ Cond.instanceMethod zy_ER_init ∈ AW ∧ Cond.initialized (zy_ER_init).cls ∈ AW ∧ Cond.code zy_ER_init zc_ER_init 4 none ∈ AW ∧ (zy_ER_init).name = "<init>" ∧ (zy_ER_init).cls ≠ "java/lang/invoke/MethodHandle" ∧ (zy_ER_init).cls ≠ "java/lang/invoke/VarHandle" ∧ (parseMethodDescriptor (zy_ER_init).desc).map (fun d => d.parameters.length) = some 3 := ⟨aw_596, aw_597, aw_247, aw_598, rfl, by decide, by decide, by decide⟩
theorem pf_X_61_X : (∀ w ∈ u_ws RX9 TX9 9, w ∈ AW) ∧ zCl[7]? = some (RX9, TX9, 9) ∧ 8 < 9 ∧ Cond.fieldLink RX9 61 (TX9 8).1 (TX9 8).2.1 (TX9 8).2.2.1 ∈ AW ∧ (∃ ty0 : Nat → FieldType, ∀ k, k < 9 → parseFieldDescriptor (TX9 k).2.2.1 = some (ty0 k)) ∧ (∀ a, a < 9 → ∀ b, b < 9 → a ≠ b → (TX9 a).2.1 ≠ (TX9 b).2.1) ∧ (TX9 8).2.2.2 = true ∧ (TX9 8).1 = RX9 ∧ parseFieldDescriptor (TX9 8).2.2.1 = some (.object "PressSuite$Reader") := ⟨uw_9, rfl, by decide, aw_509, ⟨tyX9, tyX9_ok⟩, nmX9, rfl, rfl, by decide +kernel⟩
theorem oi_M_1 : Cond.methodLink RX10 1 objectInit ∈ AW ∧ Cond.instanceMethod objectInit ∈ AW ∧ Cond.code objectInit ⟨#[0xb1]⟩ 1 none ∈ AW := ⟨aw_599, aw_545, aw_546⟩
theorem pf_M_7_M : (∀ w ∈ u_ws RX10 TXM 12, w ∈ AW) ∧ zCl[8]? = some (RX10, TXM, 12) ∧ 1 < 12 ∧ Cond.fieldLink RX10 7 (TXM 1).1 (TXM 1).2.1 (TXM 1).2.2.1 ∈ AW ∧ (∃ ty0 : Nat → FieldType, ∀ k, k < 12 → parseFieldDescriptor (TXM k).2.2.1 = some (ty0 k)) ∧ (∀ a, a < 12 → ∀ b, b < 12 → a ≠ b → (TXM a).2.1 ≠ (TXM b).2.1) ∧ (TXM 1).2.2.2 = true ∧ (TXM 1).1 = RX10 ∧ parseFieldDescriptor (TXM 1).2.2.1 = some (.array .int) := ⟨uw_10, rfl, by decide, aw_318, ⟨tyXM, tyXM_ok⟩, nmXM, rfl, rfl, by decide +kernel⟩
theorem pf_M_13_M : (∀ w ∈ u_ws RX10 TXM 12, w ∈ AW) ∧ zCl[8]? = some (RX10, TXM, 12) ∧ 2 < 12 ∧ Cond.fieldLink RX10 13 (TXM 2).1 (TXM 2).2.1 (TXM 2).2.2.1 ∈ AW ∧ (∃ ty0 : Nat → FieldType, ∀ k, k < 12 → parseFieldDescriptor (TXM k).2.2.1 = some (ty0 k)) ∧ (∀ a, a < 12 → ∀ b, b < 12 → a ≠ b → (TXM a).2.1 ≠ (TXM b).2.1) ∧ (TXM 2).2.2.2 = true ∧ (TXM 2).1 = RX10 ∧ parseFieldDescriptor (TXM 2).2.2.1 = some (.array .int) := ⟨uw_10, rfl, by decide, aw_310, ⟨tyXM, tyXM_ok⟩, nmXM, rfl, rfl, by decide +kernel⟩
theorem pf_M_16_M : (∀ w ∈ u_ws RX10 TXM 12, w ∈ AW) ∧ zCl[8]? = some (RX10, TXM, 12) ∧ 5 < 12 ∧ Cond.fieldLink RX10 16 (TXM 5).1 (TXM 5).2.1 (TXM 5).2.2.1 ∈ AW ∧ (∃ ty0 : Nat → FieldType, ∀ k, k < 12 → parseFieldDescriptor (TXM k).2.2.1 = some (ty0 k)) ∧ (∀ a, a < 12 → ∀ b, b < 12 → a ≠ b → (TXM a).2.1 ≠ (TXM b).2.1) ∧ (TXM 5).2.2.2 = true ∧ (TXM 5).1 = RX10 ∧ parseFieldDescriptor (TXM 5).2.2.1 = some (.array .int) := ⟨uw_10, rfl, by decide, aw_322, ⟨tyXM, tyXM_ok⟩, nmXM, rfl, rfl, by decide +kernel⟩
theorem pf_M_19_M : (∀ w ∈ u_ws RX10 TXM 12, w ∈ AW) ∧ zCl[8]? = some (RX10, TXM, 12) ∧ 8 < 12 ∧ Cond.fieldLink RX10 19 (TXM 8).1 (TXM 8).2.1 (TXM 8).2.2.1 ∈ AW ∧ (∃ ty0 : Nat → FieldType, ∀ k, k < 12 → parseFieldDescriptor (TXM k).2.2.1 = some (ty0 k)) ∧ (∀ a, a < 12 → ∀ b, b < 12 → a ≠ b → (TXM a).2.1 ≠ (TXM b).2.1) ∧ (TXM 8).2.2.2 = true ∧ (TXM 8).1 = RX10 ∧ parseFieldDescriptor (TXM 8).2.2.1 = some (.array .int) := ⟨uw_10, rfl, by decide, aw_353, ⟨tyXM, tyXM_ok⟩, nmXM, rfl, rfl, by decide +kernel⟩
set_option maxHeartbeats 4000000 in
set_option maxRecDepth 100000 in
theorem zn_R_init_160 (l : Launch) (D : va_G) (cB cI cJ : ClassId) (xa  : Nat) : CoN l zy_R_init zw_R_init ({ frames := 1, cells := 1, slots := 160, locals := 20 }) D cB cI cJ [.ref xa, .int (160 : Int32)] [(xa, .inr (4, [.null, .int (0 : Int32)]))] (S := Nat) (fun u => [(xa, .inr (4, [.ref u, .int (0 : Int32)]))]) (fun u => [(u, .inl (cB, 160, .inl (fun _ => 0)))]) 1 160 := by
  refine CoN.ofG (cc := zc_R_init) (maxL := 2) (own := RX5) (by decide) rfl rfl rfl (Nat.le_of_ble_eq_true rfl) (L0 := [(0, .ref xa), (1, .int (160 : Int32))]) rfl (fun k F I E => ?_)
  refine G_aload_n F zd_R_init_0 rfl (j := 0) rfl ?_
  refine G_objInit F oi_R_1 ⟨by decide, by decide⟩ (Nat.le_of_ble_eq_true rfl) zd_R_init_1 ?_
  refine G_aload_n F zd_R_init_4 rfl (j := 0) rfl ?_
  refine G_iload_n F zd_R_init_5 rfl (j := 1) rfl ?_
  refine G_newB F aw_550 (by decide) (N := 160) rfl (by decide) ⟨Nat.le_of_ble_eq_true rfl, Nat.le_of_ble_eq_true rfl⟩ zd_R_init_6 (fun q6 => ?_)
  refine G_ww (ws' := [(xa, .inr (4, [.null, .int (0 : Int32)])), (q6, .inl (cB, 160, .inl (fun _ => 0)))]) rfl ?_
  refine G_putF F I pf_R_7_R ⟨rfl, rfl⟩ zd_R_init_8 (q := 0) rfl (Nat.le_of_ble_eq_true rfl) (ws' := [(xa, .inr (4, [.ref q6, .int (0 : Int32)])), (q6, .inl (cB, 160, .inl (fun _ => 0)))]) rfl ?_
  exact E 11 _ q6 zd_R_init_11

set_option maxHeartbeats 4000000 in
set_option maxRecDepth 100000 in
theorem zn_R_init_200 (l : Launch) (D : va_G) (cB cI cJ : ClassId) (xa  : Nat) : CoN l zy_R_init zw_R_init ({ frames := 1, cells := 1, slots := 200, locals := 20 }) D cB cI cJ [.ref xa, .int (200 : Int32)] [(xa, .inr (4, [.null, .int (0 : Int32)]))] (S := Nat) (fun u => [(xa, .inr (4, [.ref u, .int (0 : Int32)]))]) (fun u => [(u, .inl (cB, 200, .inl (fun _ => 0)))]) 1 200 := by
  refine CoN.ofG (cc := zc_R_init) (maxL := 2) (own := RX5) (by decide) rfl rfl rfl (Nat.le_of_ble_eq_true rfl) (L0 := [(0, .ref xa), (1, .int (200 : Int32))]) rfl (fun k F I E => ?_)
  refine G_aload_n F zd_R_init_0 rfl (j := 0) rfl ?_
  refine G_objInit F oi_R_1 ⟨by decide, by decide⟩ (Nat.le_of_ble_eq_true rfl) zd_R_init_1 ?_
  refine G_aload_n F zd_R_init_4 rfl (j := 0) rfl ?_
  refine G_iload_n F zd_R_init_5 rfl (j := 1) rfl ?_
  refine G_newB F aw_550 (by decide) (N := 200) rfl (by decide) ⟨Nat.le_of_ble_eq_true rfl, Nat.le_of_ble_eq_true rfl⟩ zd_R_init_6 (fun q6 => ?_)
  refine G_ww (ws' := [(xa, .inr (4, [.null, .int (0 : Int32)])), (q6, .inl (cB, 200, .inl (fun _ => 0)))]) rfl ?_
  refine G_putF F I pf_R_7_R ⟨rfl, rfl⟩ zd_R_init_8 (q := 0) rfl (Nat.le_of_ble_eq_true rfl) (ws' := [(xa, .inr (4, [.ref q6, .int (0 : Int32)])), (q6, .inl (cB, 200, .inl (fun _ => 0)))]) rfl ?_
  exact E 11 _ q6 zd_R_init_11

set_option maxHeartbeats 4000000 in
set_option maxRecDepth 100000 in
theorem zn_R_init_64 (l : Launch) (D : va_G) (cB cI cJ : ClassId) (xa  : Nat) : CoN l zy_R_init zw_R_init ({ frames := 1, cells := 1, slots := 64, locals := 20 }) D cB cI cJ [.ref xa, .int (64 : Int32)] [(xa, .inr (4, [.null, .int (0 : Int32)]))] (S := Nat) (fun u => [(xa, .inr (4, [.ref u, .int (0 : Int32)]))]) (fun u => [(u, .inl (cB, 64, .inl (fun _ => 0)))]) 1 64 := by
  refine CoN.ofG (cc := zc_R_init) (maxL := 2) (own := RX5) (by decide) rfl rfl rfl (Nat.le_of_ble_eq_true rfl) (L0 := [(0, .ref xa), (1, .int (64 : Int32))]) rfl (fun k F I E => ?_)
  refine G_aload_n F zd_R_init_0 rfl (j := 0) rfl ?_
  refine G_objInit F oi_R_1 ⟨by decide, by decide⟩ (Nat.le_of_ble_eq_true rfl) zd_R_init_1 ?_
  refine G_aload_n F zd_R_init_4 rfl (j := 0) rfl ?_
  refine G_iload_n F zd_R_init_5 rfl (j := 1) rfl ?_
  refine G_newB F aw_550 (by decide) (N := 64) rfl (by decide) ⟨Nat.le_of_ble_eq_true rfl, Nat.le_of_ble_eq_true rfl⟩ zd_R_init_6 (fun q6 => ?_)
  refine G_ww (ws' := [(xa, .inr (4, [.null, .int (0 : Int32)])), (q6, .inl (cB, 64, .inl (fun _ => 0)))]) rfl ?_
  refine G_putF F I pf_R_7_R ⟨rfl, rfl⟩ zd_R_init_8 (q := 0) rfl (Nat.le_of_ble_eq_true rfl) (ws' := [(xa, .inr (4, [.ref q6, .int (0 : Int32)])), (q6, .inl (cB, 64, .inl (fun _ => 0)))]) rfl ?_
  exact E 11 _ q6 zd_R_init_11

set_option maxHeartbeats 4000000 in
set_option maxRecDepth 100000 in
theorem zn_H_init (l : Launch) (D : va_G) (cB cI cJ : ClassId) (xa a1 a2 : Nat) : CoN l zy_H_init zw_H_init ({ frames := 1, cells := 0, slots := 0, locals := 20 }) D cB cI cJ [.ref xa, .ref a1, .ref a2] [(xa, .inr (2, [.null, .null]))] (S := Unit) (fun u => [(xa, .inr (2, [.ref a1, .ref a2]))]) (fun u => []) 0 0 := by
  refine CoN.ofG (cc := zc_H_init) (maxL := 3) (own := RX2) (by decide) rfl rfl rfl (Nat.le_of_ble_eq_true rfl) (L0 := [(0, .ref xa), (1, .ref a1), (2, .ref a2)]) rfl (fun k F I E => ?_)
  refine G_aload_n F zd_H_init_0 rfl (j := 0) rfl ?_
  refine G_objInit F oi_H_1 ⟨by decide, by decide⟩ (Nat.le_of_ble_eq_true rfl) zd_H_init_1 ?_
  refine G_aload_n F zd_H_init_4 rfl (j := 0) rfl ?_
  refine G_aload_n F zd_H_init_5 rfl (j := 1) rfl ?_
  refine G_putF F I pf_H_7_H ⟨rfl, rfl⟩ zd_H_init_6 (q := 0) rfl (Nat.le_of_ble_eq_true rfl) (ws' := [(xa, .inr (2, [.ref a1, .null]))]) rfl ?_
  refine G_aload_n F zd_H_init_9 rfl (j := 0) rfl ?_
  refine G_aload_n F zd_H_init_10 rfl (j := 2) rfl ?_
  refine G_putF F I pf_H_13_H ⟨rfl, rfl⟩ zd_H_init_11 (q := 0) rfl (Nat.le_of_ble_eq_true rfl) (ws' := [(xa, .inr (2, [.ref a1, .ref a2]))]) rfl ?_
  exact E 14 _ () zd_H_init_14

set_option maxHeartbeats 4000000 in
set_option maxRecDepth 100000 in
theorem zn_P_init (l : Launch) (D : va_G) (cB cI cJ : ClassId) (xa a1 a2 : Nat) : CoN l zy_P_init zw_P_init ({ frames := 2, cells := 2, slots := 34, locals := 42 }) D cB cI cJ [.ref xa, .ref a1, .ref a2] [(xa, .inr (3, [.null, .null, .null, .null, .int (0 : Int32), .int (0 : Int32), .int (0 : Int32)]))] (S := Nat × Nat) (fun u => [(xa, .inr (3, [.ref a1, .ref a2, .ref (u.1), .ref (u.2), .int (0 : Int32), .int (0 : Int32), .int (0 : Int32)]))]) (fun u => [(u.1, .inr (2, [.ref a1, .ref a2])), (u.2, .inl (cI, 32, .inl (fun _ => 0)))]) 2 34 := by
  refine CoN.ofG (cc := zc_P_init) (maxL := 3) (own := RX3) (by decide) rfl rfl rfl (Nat.le_of_ble_eq_true rfl) (L0 := [(0, .ref xa), (1, .ref a1), (2, .ref a2)]) rfl (fun k F I E => ?_)
  refine G_aload_n F zd_P_init_0 rfl (j := 0) rfl ?_
  refine G_objInit F oi_P_1 ⟨by decide, by decide⟩ (Nat.le_of_ble_eq_true rfl) zd_P_init_1 ?_
  refine G_aload_n F zd_P_init_4 rfl (j := 0) rfl ?_
  refine G_aload_n F zd_P_init_5 rfl (j := 1) rfl ?_
  refine G_putF F I pf_P_7_P ⟨rfl, rfl⟩ zd_P_init_6 (q := 0) rfl (Nat.le_of_ble_eq_true rfl) (ws' := [(xa, .inr (3, [.ref a1, .null, .null, .null, .int (0 : Int32), .int (0 : Int32), .int (0 : Int32)]))]) rfl ?_
  refine G_aload_n F zd_P_init_9 rfl (j := 0) rfl ?_
  refine G_aload_n F zd_P_init_10 rfl (j := 2) rfl ?_
  refine G_putF F I pf_P_13_P ⟨rfl, rfl⟩ zd_P_init_11 (q := 0) rfl (Nat.le_of_ble_eq_true rfl) (ws' := [(xa, .inr (3, [.ref a1, .ref a2, .null, .null, .int (0 : Int32), .int (0 : Int32), .int (0 : Int32)]))]) rfl ?_
  refine G_aload_n F zd_P_init_14 rfl (j := 0) rfl ?_
  refine G_new F (tyX2) cn_P_16 (fs := [.null, .null]) (fun j hj => by rcases (show j = 0 ∨ j = 1 by omega) with rfl | rfl <;> rfl) ⟨Nat.le_of_ble_eq_true rfl, Nat.le_of_ble_eq_true rfl⟩ zd_P_init_15 (fun q15 => ?_)
  refine G_ww (ws' := [(xa, .inr (3, [.ref a1, .ref a2, .null, .null, .int (0 : Int32), .int (0 : Int32), .int (0 : Int32)])), (q15, .inr (2, [.null, .null]))]) rfl ?_
  refine G_dup F zd_P_init_18 rfl ?_
  refine G_aload_n F zd_P_init_19 rfl (j := 1) rfl ?_
  refine G_aload_n F zd_P_init_20 rfl (j := 2) rfl ?_
  refine G_callI F (zn_H_init l D cB cI cJ q15 a1 a2) (rest := [.ref q15, .ref xa]) [1] rfl rfl (fun _ => rfl) ci_P_18 rfl rfl ⟨Nat.le_of_ble_eq_true rfl, Nat.le_of_ble_eq_true rfl⟩ ⟨Nat.le_of_ble_eq_true rfl, Nat.le_of_ble_eq_true rfl⟩ rfl (Nat.le_of_ble_eq_true rfl) zd_P_init_21 rfl (fun u => ?_)
  refine G_ww (ws' := [(xa, .inr (3, [.ref a1, .ref a2, .null, .null, .int (0 : Int32), .int (0 : Int32), .int (0 : Int32)])), (q15, .inr (2, [.ref a1, .ref a2]))]) rfl ?_
  refine G_putF F I pf_P_21_P ⟨rfl, rfl⟩ zd_P_init_24 (q := 0) rfl (Nat.le_of_ble_eq_true rfl) (ws' := [(xa, .inr (3, [.ref a1, .ref a2, .ref q15, .null, .int (0 : Int32), .int (0 : Int32), .int (0 : Int32)])), (q15, .inr (2, [.ref a1, .ref a2]))]) rfl ?_
  refine G_aload_n F zd_P_init_27 rfl (j := 0) rfl ?_
  refine G_bipush (v := (32 : Int32)) F zd_P_init_28 (by decide) ?_
  refine G_newI F aw_563 (by decide) (N := 32) rfl (by decide) ⟨Nat.le_of_ble_eq_true rfl, Nat.le_of_ble_eq_true rfl⟩ zd_P_init_30 (fun q30 => ?_)
  refine G_ww (ws' := [(xa, .inr (3, [.ref a1, .ref a2, .ref q15, .null, .int (0 : Int32), .int (0 : Int32), .int (0 : Int32)])), (q15, .inr (2, [.ref a1, .ref a2])), (q30, .inl (cI, 32, .inl (fun _ => 0)))]) rfl ?_
  refine G_putF F I pf_P_25_P ⟨rfl, rfl⟩ zd_P_init_32 (q := 0) rfl (Nat.le_of_ble_eq_true rfl) (ws' := [(xa, .inr (3, [.ref a1, .ref a2, .ref q15, .ref q30, .int (0 : Int32), .int (0 : Int32), .int (0 : Int32)])), (q15, .inr (2, [.ref a1, .ref a2])), (q30, .inl (cI, 32, .inl (fun _ => 0)))]) rfl ?_
  exact E 35 _ (q15, q30) zd_P_init_35

set_option maxHeartbeats 4000000 in
set_option maxRecDepth 100000 in
theorem zn_W_init_SW (l : Launch) (D : va_G) (cB cI cJ : ClassId) (xa a1 a2 : Nat) : CoN l zy_W_init zw_W_init ({ frames := 1, cells := 0, slots := 0, locals := 20 }) D cB cI cJ [.ref xa, .ref a1, .ref a2] [(xa, .inr (6, [.null, .null]))] (S := Unit) (fun u => [(xa, .inr (6, [.ref a1, .ref a2]))]) (fun u => []) 0 0 := by
  refine CoN.ofG (cc := zc_W_init) (maxL := 3) (own := RX8) (by decide) rfl rfl rfl (Nat.le_of_ble_eq_true rfl) (L0 := [(0, .ref xa), (1, .ref a1), (2, .ref a2)]) rfl (fun k F I E => ?_)
  refine G_aload_n F zd_W_init_0 rfl (j := 0) rfl ?_
  refine G_objInit F oi_W_1 ⟨by decide, by decide⟩ (Nat.le_of_ble_eq_true rfl) zd_W_init_1 ?_
  refine G_aload_n F zd_W_init_4 rfl (j := 0) rfl ?_
  refine G_aload_n F zd_W_init_5 rfl (j := 1) rfl ?_
  refine G_putF F I pf_W_7_SW ⟨rfl, rfl⟩ zd_W_init_6 (q := 0) rfl (Nat.le_of_ble_eq_true rfl) (ws' := [(xa, .inr (6, [.ref a1, .null]))]) rfl ?_
  refine G_aload_n F zd_W_init_9 rfl (j := 0) rfl ?_
  refine G_aload_n F zd_W_init_10 rfl (j := 2) rfl ?_
  refine G_putF F I pf_W_13_SW ⟨rfl, rfl⟩ zd_W_init_11 (q := 0) rfl (Nat.le_of_ble_eq_true rfl) (ws' := [(xa, .inr (6, [.ref a1, .ref a2]))]) rfl ?_
  exact E 14 _ () zd_W_init_14

set_option maxHeartbeats 4000000 in
set_option maxRecDepth 100000 in
theorem zn_SW_init (l : Launch) (D : va_G) (cB cI cJ : ClassId) (xa a1 a2 : Nat) : CoN l zy_SW_init zw_SW_init ({ frames := 2, cells := 0, slots := 0, locals := 42 }) D cB cI cJ [.ref xa, .ref a1, .ref a2] [(xa, .inr (6, [.null, .null]))] (S := Unit) (fun u => [(xa, .inr (6, [.ref a1, .ref a2]))]) (fun u => []) 0 0 := by
  refine CoN.ofG (cc := zc_SW_init) (maxL := 3) (own := RX7) (by decide) rfl rfl rfl (Nat.le_of_ble_eq_true rfl) (L0 := [(0, .ref xa), (1, .ref a1), (2, .ref a2)]) rfl (fun k F I E => ?_)
  refine G_aload_n F zd_SW_init_0 rfl (j := 0) rfl ?_
  refine G_aload_n F zd_SW_init_1 rfl (j := 1) rfl ?_
  refine G_aload_n F zd_SW_init_2 rfl (j := 2) rfl ?_
  refine G_callI F (zn_W_init_SW l D cB cI cJ xa a1 a2) (rest := []) [0] rfl rfl (fun _ => rfl) ci_SW_1 rfl rfl ⟨Nat.le_of_ble_eq_true rfl, Nat.le_of_ble_eq_true rfl⟩ ⟨Nat.le_of_ble_eq_true rfl, Nat.le_of_ble_eq_true rfl⟩ rfl (Nat.le_of_ble_eq_true rfl) zd_SW_init_3 rfl (fun u => ?_)
  refine G_ww (ws' := [(xa, .inr (6, [.ref a1, .ref a2]))]) rfl ?_
  exact E 6 _ () zd_SW_init_6

set_option maxHeartbeats 4000000 in
set_option maxRecDepth 100000 in
theorem zn_W_init_EW (l : Launch) (D : va_G) (cB cI cJ : ClassId) (xa a1 a2 : Nat) : CoN l zy_W_init zw_W_init ({ frames := 1, cells := 0, slots := 0, locals := 20 }) D cB cI cJ [.ref xa, .ref a1, .ref a2] [(xa, .inr (1, [.null, .null]))] (S := Unit) (fun u => [(xa, .inr (1, [.ref a1, .ref a2]))]) (fun u => []) 0 0 := by
  refine CoN.ofG (cc := zc_W_init) (maxL := 3) (own := RX8) (by decide) rfl rfl rfl (Nat.le_of_ble_eq_true rfl) (L0 := [(0, .ref xa), (1, .ref a1), (2, .ref a2)]) rfl (fun k F I E => ?_)
  refine G_aload_n F zd_W_init_0 rfl (j := 0) rfl ?_
  refine G_objInit F oi_W_1 ⟨by decide, by decide⟩ (Nat.le_of_ble_eq_true rfl) zd_W_init_1 ?_
  refine G_aload_n F zd_W_init_4 rfl (j := 0) rfl ?_
  refine G_aload_n F zd_W_init_5 rfl (j := 1) rfl ?_
  refine G_putF F I pf_W_7_EW ⟨rfl, rfl⟩ zd_W_init_6 (q := 0) rfl (Nat.le_of_ble_eq_true rfl) (ws' := [(xa, .inr (1, [.ref a1, .null]))]) rfl ?_
  refine G_aload_n F zd_W_init_9 rfl (j := 0) rfl ?_
  refine G_aload_n F zd_W_init_10 rfl (j := 2) rfl ?_
  refine G_putF F I pf_W_13_EW ⟨rfl, rfl⟩ zd_W_init_11 (q := 0) rfl (Nat.le_of_ble_eq_true rfl) (ws' := [(xa, .inr (1, [.ref a1, .ref a2]))]) rfl ?_
  exact E 14 _ () zd_W_init_14

set_option maxHeartbeats 4000000 in
set_option maxRecDepth 100000 in
theorem zn_EW_init (l : Launch) (D : va_G) (cB cI cJ : ClassId) (xa a1 a2 : Nat) : CoN l zy_EW_init zw_EW_init ({ frames := 2, cells := 0, slots := 0, locals := 42 }) D cB cI cJ [.ref xa, .ref a1, .ref a2] [(xa, .inr (1, [.null, .null]))] (S := Unit) (fun u => [(xa, .inr (1, [.ref a1, .ref a2]))]) (fun u => []) 0 0 := by
  refine CoN.ofG (cc := zc_EW_init) (maxL := 3) (own := RX1) (by decide) rfl rfl rfl (Nat.le_of_ble_eq_true rfl) (L0 := [(0, .ref xa), (1, .ref a1), (2, .ref a2)]) rfl (fun k F I E => ?_)
  refine G_aload_n F zd_EW_init_0 rfl (j := 0) rfl ?_
  refine G_aload_n F zd_EW_init_1 rfl (j := 1) rfl ?_
  refine G_aload_n F zd_EW_init_2 rfl (j := 2) rfl ?_
  refine G_callI F (zn_W_init_EW l D cB cI cJ xa a1 a2) (rest := []) [0] rfl rfl (fun _ => rfl) ci_EW_1 rfl rfl ⟨Nat.le_of_ble_eq_true rfl, Nat.le_of_ble_eq_true rfl⟩ ⟨Nat.le_of_ble_eq_true rfl, Nat.le_of_ble_eq_true rfl⟩ rfl (Nat.le_of_ble_eq_true rfl) zd_EW_init_3 rfl (fun u => ?_)
  refine G_ww (ws' := [(xa, .inr (1, [.ref a1, .ref a2]))]) rfl ?_
  exact E 6 _ () zd_EW_init_6

set_option maxHeartbeats 4000000 in
set_option maxRecDepth 100000 in
theorem zn_D_init_SR (l : Launch) (D : va_G) (cB cI cJ : ClassId) (xa a1 a2 a3 : Nat) : CoN l zy_D_init zw_D_init ({ frames := 2, cells := 1, slots := 2, locals := 42 }) D cB cI cJ [.ref xa, .ref a1, .ref a2, .ref a3] [(xa, .inr (5, [.null, .null, .null, .int (0 : Int32), .int (0 : Int32)]))] (S := Nat) (fun u => [(xa, .inr (5, [.ref a1, .ref a3, .ref u, .int (0 : Int32), .int (0 : Int32)]))]) (fun u => [(u, .inr (2, [.ref a2, .ref a3]))]) 1 2 := by
  refine CoN.ofG (cc := zc_D_init) (maxL := 4) (own := RX4) (by decide) rfl rfl rfl (Nat.le_of_ble_eq_true rfl) (L0 := [(0, .ref xa), (1, .ref a1), (2, .ref a2), (3, .ref a3)]) rfl (fun k F I E => ?_)
  refine G_aload_n F zd_D_init_0 rfl (j := 0) rfl ?_
  refine G_objInit F oi_D_1 ⟨by decide, by decide⟩ (Nat.le_of_ble_eq_true rfl) zd_D_init_1 ?_
  refine G_aload_n F zd_D_init_4 rfl (j := 0) rfl ?_
  refine G_aload_n F zd_D_init_5 rfl (j := 1) rfl ?_
  refine G_putF F I pf_D_7_SR ⟨rfl, rfl⟩ zd_D_init_6 (q := 0) rfl (Nat.le_of_ble_eq_true rfl) (ws' := [(xa, .inr (5, [.ref a1, .null, .null, .int (0 : Int32), .int (0 : Int32)]))]) rfl ?_
  refine G_aload_n F zd_D_init_9 rfl (j := 0) rfl ?_
  refine G_aload_n F zd_D_init_10 rfl (j := 3) rfl ?_
  refine G_putF F I pf_D_13_SR ⟨rfl, rfl⟩ zd_D_init_11 (q := 0) rfl (Nat.le_of_ble_eq_true rfl) (ws' := [(xa, .inr (5, [.ref a1, .ref a3, .null, .int (0 : Int32), .int (0 : Int32)]))]) rfl ?_
  refine G_aload_n F zd_D_init_14 rfl (j := 0) rfl ?_
  refine G_new F (tyX2) cn_D_16 (fs := [.null, .null]) (fun j hj => by rcases (show j = 0 ∨ j = 1 by omega) with rfl | rfl <;> rfl) ⟨Nat.le_of_ble_eq_true rfl, Nat.le_of_ble_eq_true rfl⟩ zd_D_init_15 (fun q15 => ?_)
  refine G_ww (ws' := [(xa, .inr (5, [.ref a1, .ref a3, .null, .int (0 : Int32), .int (0 : Int32)])), (q15, .inr (2, [.null, .null]))]) rfl ?_
  refine G_dup F zd_D_init_18 rfl ?_
  refine G_aload_n F zd_D_init_19 rfl (j := 2) rfl ?_
  refine G_aload_n F zd_D_init_20 rfl (j := 3) rfl ?_
  refine G_callI F (zn_H_init l D cB cI cJ q15 a2 a3) (rest := [.ref q15, .ref xa]) [1] rfl rfl (fun _ => rfl) ci_D_18 rfl rfl ⟨Nat.le_of_ble_eq_true rfl, Nat.le_of_ble_eq_true rfl⟩ ⟨Nat.le_of_ble_eq_true rfl, Nat.le_of_ble_eq_true rfl⟩ rfl (Nat.le_of_ble_eq_true rfl) zd_D_init_21 rfl (fun u => ?_)
  refine G_ww (ws' := [(xa, .inr (5, [.ref a1, .ref a3, .null, .int (0 : Int32), .int (0 : Int32)])), (q15, .inr (2, [.ref a2, .ref a3]))]) rfl ?_
  refine G_putF F I pf_D_21_SR ⟨rfl, rfl⟩ zd_D_init_24 (q := 0) rfl (Nat.le_of_ble_eq_true rfl) (ws' := [(xa, .inr (5, [.ref a1, .ref a3, .ref q15, .int (0 : Int32), .int (0 : Int32)])), (q15, .inr (2, [.ref a2, .ref a3]))]) rfl ?_
  exact E 27 _ q15 zd_D_init_27

set_option maxHeartbeats 4000000 in
set_option maxRecDepth 100000 in
theorem zn_SR_init (l : Launch) (D : va_G) (cB cI cJ : ClassId) (xa a1 a2 a3 : Nat) : CoN l zy_SR_init zw_SR_init ({ frames := 3, cells := 1, slots := 2, locals := 65 }) D cB cI cJ [.ref xa, .ref a1, .ref a2, .ref a3] [(xa, .inr (5, [.null, .null, .null, .int (0 : Int32), .int (0 : Int32)]))] (S := Nat) (fun u => [(xa, .inr (5, [.ref a1, .ref a3, .ref u, .int (0 : Int32), .int (0 : Int32)]))]) (fun u => [(u, .inr (2, [.ref a2, .ref a3]))]) 1 2 := by
  refine CoN.ofG (cc := zc_SR_init) (maxL := 4) (own := RX6) (by decide) rfl rfl rfl (Nat.le_of_ble_eq_true rfl) (L0 := [(0, .ref xa), (1, .ref a1), (2, .ref a2), (3, .ref a3)]) rfl (fun k F I E => ?_)
  refine G_aload_n F zd_SR_init_0 rfl (j := 0) rfl ?_
  refine G_aload_n F zd_SR_init_1 rfl (j := 1) rfl ?_
  refine G_aload_n F zd_SR_init_2 rfl (j := 2) rfl ?_
  refine G_aload_n F zd_SR_init_3 rfl (j := 3) rfl ?_
  refine G_callI F (zn_D_init_SR l D cB cI cJ xa a1 a2 a3) (rest := []) [0] rfl rfl (fun _ => rfl) ci_SR_3 rfl rfl ⟨Nat.le_of_ble_eq_true rfl, Nat.le_of_ble_eq_true rfl⟩ ⟨Nat.le_of_ble_eq_true rfl, Nat.le_of_ble_eq_true rfl⟩ rfl (Nat.le_of_ble_eq_true rfl) zd_SR_init_4 rfl (fun u => ?_)
  obtain ⟨p4_q15, e4⟩ : ∃ z, z = u := ⟨u, rfl⟩
  subst e4
  refine G_ww (ws' := [(xa, .inr (5, [.ref a1, .ref a3, .ref p4_q15, .int (0 : Int32), .int (0 : Int32)])), (p4_q15, .inr (2, [.ref a2, .ref a3]))]) rfl ?_
  exact E 7 _ p4_q15 zd_SR_init_7

set_option maxHeartbeats 4000000 in
set_option maxRecDepth 100000 in
theorem zn_D_init_ER (l : Launch) (D : va_G) (cB cI cJ : ClassId) (xa a1 a2 a3 : Nat) : CoN l zy_D_init zw_D_init ({ frames := 2, cells := 1, slots := 2, locals := 42 }) D cB cI cJ [.ref xa, .ref a1, .ref a2, .ref a3] [(xa, .inr (0, [.null, .null, .null, .int (0 : Int32), .int (0 : Int32), .int (0 : Int32)]))] (S := Nat) (fun u => [(xa, .inr (0, [.ref a1, .ref a3, .ref u, .int (0 : Int32), .int (0 : Int32), .int (0 : Int32)]))]) (fun u => [(u, .inr (2, [.ref a2, .ref a3]))]) 1 2 := by
  refine CoN.ofG (cc := zc_D_init) (maxL := 4) (own := RX4) (by decide) rfl rfl rfl (Nat.le_of_ble_eq_true rfl) (L0 := [(0, .ref xa), (1, .ref a1), (2, .ref a2), (3, .ref a3)]) rfl (fun k F I E => ?_)
  refine G_aload_n F zd_D_init_0 rfl (j := 0) rfl ?_
  refine G_objInit F oi_D_1 ⟨by decide, by decide⟩ (Nat.le_of_ble_eq_true rfl) zd_D_init_1 ?_
  refine G_aload_n F zd_D_init_4 rfl (j := 0) rfl ?_
  refine G_aload_n F zd_D_init_5 rfl (j := 1) rfl ?_
  refine G_putF F I pf_D_7_ER ⟨rfl, rfl⟩ zd_D_init_6 (q := 0) rfl (Nat.le_of_ble_eq_true rfl) (ws' := [(xa, .inr (0, [.ref a1, .null, .null, .int (0 : Int32), .int (0 : Int32), .int (0 : Int32)]))]) rfl ?_
  refine G_aload_n F zd_D_init_9 rfl (j := 0) rfl ?_
  refine G_aload_n F zd_D_init_10 rfl (j := 3) rfl ?_
  refine G_putF F I pf_D_13_ER ⟨rfl, rfl⟩ zd_D_init_11 (q := 0) rfl (Nat.le_of_ble_eq_true rfl) (ws' := [(xa, .inr (0, [.ref a1, .ref a3, .null, .int (0 : Int32), .int (0 : Int32), .int (0 : Int32)]))]) rfl ?_
  refine G_aload_n F zd_D_init_14 rfl (j := 0) rfl ?_
  refine G_new F (tyX2) cn_D_16 (fs := [.null, .null]) (fun j hj => by rcases (show j = 0 ∨ j = 1 by omega) with rfl | rfl <;> rfl) ⟨Nat.le_of_ble_eq_true rfl, Nat.le_of_ble_eq_true rfl⟩ zd_D_init_15 (fun q15 => ?_)
  refine G_ww (ws' := [(xa, .inr (0, [.ref a1, .ref a3, .null, .int (0 : Int32), .int (0 : Int32), .int (0 : Int32)])), (q15, .inr (2, [.null, .null]))]) rfl ?_
  refine G_dup F zd_D_init_18 rfl ?_
  refine G_aload_n F zd_D_init_19 rfl (j := 2) rfl ?_
  refine G_aload_n F zd_D_init_20 rfl (j := 3) rfl ?_
  refine G_callI F (zn_H_init l D cB cI cJ q15 a2 a3) (rest := [.ref q15, .ref xa]) [1] rfl rfl (fun _ => rfl) ci_D_18 rfl rfl ⟨Nat.le_of_ble_eq_true rfl, Nat.le_of_ble_eq_true rfl⟩ ⟨Nat.le_of_ble_eq_true rfl, Nat.le_of_ble_eq_true rfl⟩ rfl (Nat.le_of_ble_eq_true rfl) zd_D_init_21 rfl (fun u => ?_)
  refine G_ww (ws' := [(xa, .inr (0, [.ref a1, .ref a3, .null, .int (0 : Int32), .int (0 : Int32), .int (0 : Int32)])), (q15, .inr (2, [.ref a2, .ref a3]))]) rfl ?_
  refine G_putF F I pf_D_21_ER ⟨rfl, rfl⟩ zd_D_init_24 (q := 0) rfl (Nat.le_of_ble_eq_true rfl) (ws' := [(xa, .inr (0, [.ref a1, .ref a3, .ref q15, .int (0 : Int32), .int (0 : Int32), .int (0 : Int32)])), (q15, .inr (2, [.ref a2, .ref a3]))]) rfl ?_
  exact E 27 _ q15 zd_D_init_27

set_option maxHeartbeats 4000000 in
set_option maxRecDepth 100000 in
theorem zn_ER_init (l : Launch) (D : va_G) (cB cI cJ : ClassId) (xa a1 a2 a3 : Nat) : CoN l zy_ER_init zw_ER_init ({ frames := 3, cells := 1, slots := 2, locals := 65 }) D cB cI cJ [.ref xa, .ref a1, .ref a2, .ref a3] [(xa, .inr (0, [.null, .null, .null, .int (0 : Int32), .int (0 : Int32), .int (0 : Int32)]))] (S := Nat) (fun u => [(xa, .inr (0, [.ref a1, .ref a3, .ref u, .int (0 : Int32), .int (0 : Int32), .int (0 : Int32)]))]) (fun u => [(u, .inr (2, [.ref a2, .ref a3]))]) 1 2 := by
  refine CoN.ofG (cc := zc_ER_init) (maxL := 4) (own := RX0) (by decide) rfl rfl rfl (Nat.le_of_ble_eq_true rfl) (L0 := [(0, .ref xa), (1, .ref a1), (2, .ref a2), (3, .ref a3)]) rfl (fun k F I E => ?_)
  refine G_aload_n F zd_ER_init_0 rfl (j := 0) rfl ?_
  refine G_aload_n F zd_ER_init_1 rfl (j := 1) rfl ?_
  refine G_aload_n F zd_ER_init_2 rfl (j := 2) rfl ?_
  refine G_aload_n F zd_ER_init_3 rfl (j := 3) rfl ?_
  refine G_callI F (zn_D_init_ER l D cB cI cJ xa a1 a2 a3) (rest := []) [0] rfl rfl (fun _ => rfl) ci_ER_3 rfl rfl ⟨Nat.le_of_ble_eq_true rfl, Nat.le_of_ble_eq_true rfl⟩ ⟨Nat.le_of_ble_eq_true rfl, Nat.le_of_ble_eq_true rfl⟩ rfl (Nat.le_of_ble_eq_true rfl) zd_ER_init_4 rfl (fun u => ?_)
  obtain ⟨p4_q15, e4⟩ : ∃ z, z = u := ⟨u, rfl⟩
  subst e4
  refine G_ww (ws' := [(xa, .inr (0, [.ref a1, .ref a3, .ref p4_q15, .int (0 : Int32), .int (0 : Int32), .int (0 : Int32)])), (p4_q15, .inr (2, [.ref a2, .ref a3]))]) rfl ?_
  exact E 7 _ p4_q15 zd_ER_init_7

set_option maxHeartbeats 4000000 in
set_option maxRecDepth 100000 in
theorem zn_X_init (l : Launch) (D : va_G) (cB cI cJ : ClassId) (xa  : Nat) : CoN l zy_X_init zw_X_init ({ frames := 4, cells := 17, slots := 652, locals := 88 }) D cB cI cJ [.ref xa] [(xa, .inr (7, [.null, .null, .null, .null, .null, .null, .null, .null, .null]))] (S := Nat × Nat × Nat × Nat × Nat × Nat × Nat × Nat × Nat × Nat × Nat × Nat × Nat × Nat × Nat × Nat × Nat) (fun u => [(xa, .inr (7, [.ref (u.1), .ref (u.2.2.1), .ref (u.2.2.2.2.1), .ref (u.2.2.2.2.2.2.1), .ref (u.2.2.2.2.2.2.2.2.1), .ref (u.2.2.2.2.2.2.2.2.2.2.2.1), .ref (u.2.2.2.2.2.2.2.2.2.2.2.2.1), .ref (u.2.2.2.2.2.2.2.2.2.2.2.2.2.1), .ref (u.2.2.2.2.2.2.2.2.2.2.2.2.2.2.2.1)]))]) (fun u => [(u.1, .inr (4, [.ref (u.2.1), .int (0 : Int32)])), (u.2.1, .inl (cB, 160, .inl (fun _ => 0))), (u.2.2.1, .inr (4, [.ref (u.2.2.2.1), .int (0 : Int32)])), (u.2.2.2.1, .inl (cB, 200, .inl (fun _ => 0))), (u.2.2.2.2.1, .inr (4, [.ref (u.2.2.2.2.2.1), .int (0 : Int32)])), (u.2.2.2.2.2.1, .inl (cB, 64, .inl (fun _ => 0))), (u.2.2.2.2.2.2.1, .inr (4, [.ref (u.2.2.2.2.2.2.2.1), .int (0 : Int32)])), (u.2.2.2.2.2.2.2.1, .inl (cB, 160, .inl (fun _ => 0))), (u.2.2.2.2.2.2.2.2.2.1, .inr (2, [.ref (u.2.2.2.2.1), .ref (u.1)])), (u.2.2.2.2.2.2.2.2.1, .inr (3, [.ref (u.2.2.2.2.1), .ref (u.1), .ref (u.2.2.2.2.2.2.2.2.2.1), .ref (u.2.2.2.2.2.2.2.2.2.2.1), .int (0 : Int32), .int (0 : Int32), .int (0 : Int32)])), (u.2.2.2.2.2.2.2.2.2.2.1, .inl (cI, 32, .inl (fun _ => 0))), (u.2.2.2.2.2.2.2.2.2.2.2.1, .inr (6, [.ref (u.1), .ref (u.2.2.1)])), (u.2.2.2.2.2.2.2.2.2.2.2.2.1, .inr (1, [.ref (u.1), .ref (u.2.2.1)])), (u.2.2.2.2.2.2.2.2.2.2.2.2.2.2.1, .inr (2, [.ref (u.2.2.2.2.1), .ref (u.2.2.2.2.2.2.1)])), (u.2.2.2.2.2.2.2.2.2.2.2.2.2.2.2.2, .inr (2, [.ref (u.2.2.2.2.1), .ref (u.2.2.2.2.2.2.1)])), (u.2.2.2.2.2.2.2.2.2.2.2.2.2.1, .inr (5, [.ref (u.2.2.1), .ref (u.2.2.2.2.2.2.1), .ref (u.2.2.2.2.2.2.2.2.2.2.2.2.2.2.1), .int (0 : Int32), .int (0 : Int32)])), (u.2.2.2.2.2.2.2.2.2.2.2.2.2.2.2.1, .inr (0, [.ref (u.2.2.1), .ref (u.2.2.2.2.2.2.1), .ref (u.2.2.2.2.2.2.2.2.2.2.2.2.2.2.2.2), .int (0 : Int32), .int (0 : Int32), .int (0 : Int32)]))]) 17 652 := by
  refine CoN.ofG (cc := zc_X_init) (maxL := 1) (own := RX9) (by decide) rfl rfl rfl (Nat.le_of_ble_eq_true rfl) (L0 := [(0, .ref xa)]) rfl (fun k F I E => ?_)
  refine G_aload_n F zd_X_init_0 rfl (j := 0) rfl ?_
  refine G_objInit F oi_X_1 ⟨by decide, by decide⟩ (Nat.le_of_ble_eq_true rfl) zd_X_init_1 ?_
  refine G_aload_n F zd_X_init_4 rfl (j := 0) rfl ?_
  refine G_new F (tyX5) cn_X_7 (fs := [.null, .int (0 : Int32)]) (fun j hj => by rcases (show j = 0 ∨ j = 1 by omega) with rfl | rfl <;> rfl) ⟨Nat.le_of_ble_eq_true rfl, Nat.le_of_ble_eq_true rfl⟩ zd_X_init_5 (fun q5 => ?_)
  refine G_ww (ws' := [(xa, .inr (7, [.null, .null, .null, .null, .null, .null, .null, .null, .null])), (q5, .inr (4, [.null, .int (0 : Int32)]))]) rfl ?_
  refine G_dup F zd_X_init_8 rfl ?_
  refine G_sipush (v := (160 : Int32)) F zd_X_init_9 (by decide) ?_
  refine G_callI F (zn_R_init_160 l D cB cI cJ q5 ) (rest := [.ref q5, .ref xa]) [1] rfl rfl (fun _ => rfl) ci_X_11 rfl rfl ⟨Nat.le_of_ble_eq_true rfl, Nat.le_of_ble_eq_true rfl⟩ ⟨Nat.le_of_ble_eq_true rfl, Nat.le_of_ble_eq_true rfl⟩ rfl (Nat.le_of_ble_eq_true rfl) zd_X_init_12 rfl (fun u => ?_)
  obtain ⟨p12_q6, e12⟩ : ∃ z, z = u := ⟨u, rfl⟩
  subst e12
  refine G_ww (ws' := [(xa, .inr (7, [.null, .null, .null, .null, .null, .null, .null, .null, .null])), (q5, .inr (4, [.ref p12_q6, .int (0 : Int32)])), (p12_q6, .inl (cB, 160, .inl (fun _ => 0)))]) rfl ?_
  refine G_putF F I pf_X_14_X ⟨rfl, rfl⟩ zd_X_init_15 (q := 0) rfl (Nat.le_of_ble_eq_true rfl) (ws' := [(xa, .inr (7, [.ref q5, .null, .null, .null, .null, .null, .null, .null, .null])), (q5, .inr (4, [.ref p12_q6, .int (0 : Int32)])), (p12_q6, .inl (cB, 160, .inl (fun _ => 0)))]) rfl ?_
  refine G_aload_n F zd_X_init_18 rfl (j := 0) rfl ?_
  refine G_new F (tyX5) cn_X_7 (fs := [.null, .int (0 : Int32)]) (fun j hj => by rcases (show j = 0 ∨ j = 1 by omega) with rfl | rfl <;> rfl) ⟨Nat.le_of_ble_eq_true rfl, Nat.le_of_ble_eq_true rfl⟩ zd_X_init_19 (fun q19 => ?_)
  refine G_ww (ws' := [(xa, .inr (7, [.ref q5, .null, .null, .null, .null, .null, .null, .null, .null])), (q5, .inr (4, [.ref p12_q6, .int (0 : Int32)])), (p12_q6, .inl (cB, 160, .inl (fun _ => 0))), (q19, .inr (4, [.null, .int (0 : Int32)]))]) rfl ?_
  refine G_dup F zd_X_init_22 rfl ?_
  refine G_sipush (v := (200 : Int32)) F zd_X_init_23 (by decide) ?_
  refine G_callI F (zn_R_init_200 l D cB cI cJ q19 ) (rest := [.ref q19, .ref xa]) [3] rfl rfl (fun _ => rfl) ci_X_11 rfl rfl ⟨Nat.le_of_ble_eq_true rfl, Nat.le_of_ble_eq_true rfl⟩ ⟨Nat.le_of_ble_eq_true rfl, Nat.le_of_ble_eq_true rfl⟩ rfl (Nat.le_of_ble_eq_true rfl) zd_X_init_26 rfl (fun u => ?_)
  obtain ⟨p26_q6, e26⟩ : ∃ z, z = u := ⟨u, rfl⟩
  subst e26
  refine G_ww (ws' := [(xa, .inr (7, [.ref q5, .null, .null, .null, .null, .null, .null, .null, .null])), (q5, .inr (4, [.ref p12_q6, .int (0 : Int32)])), (p12_q6, .inl (cB, 160, .inl (fun _ => 0))), (q19, .inr (4, [.ref p26_q6, .int (0 : Int32)])), (p26_q6, .inl (cB, 200, .inl (fun _ => 0)))]) rfl ?_
  refine G_putF F I pf_X_18_X ⟨rfl, rfl⟩ zd_X_init_29 (q := 0) rfl (Nat.le_of_ble_eq_true rfl) (ws' := [(xa, .inr (7, [.ref q5, .ref q19, .null, .null, .null, .null, .null, .null, .null])), (q5, .inr (4, [.ref p12_q6, .int (0 : Int32)])), (p12_q6, .inl (cB, 160, .inl (fun _ => 0))), (q19, .inr (4, [.ref p26_q6, .int (0 : Int32)])), (p26_q6, .inl (cB, 200, .inl (fun _ => 0)))]) rfl ?_
  refine G_aload_n F zd_X_init_32 rfl (j := 0) rfl ?_
  refine G_new F (tyX5) cn_X_7 (fs := [.null, .int (0 : Int32)]) (fun j hj => by rcases (show j = 0 ∨ j = 1 by omega) with rfl | rfl <;> rfl) ⟨Nat.le_of_ble_eq_true rfl, Nat.le_of_ble_eq_true rfl⟩ zd_X_init_33 (fun q33 => ?_)
  refine G_ww (ws' := [(xa, .inr (7, [.ref q5, .ref q19, .null, .null, .null, .null, .null, .null, .null])), (q5, .inr (4, [.ref p12_q6, .int (0 : Int32)])), (p12_q6, .inl (cB, 160, .inl (fun _ => 0))), (q19, .inr (4, [.ref p26_q6, .int (0 : Int32)])), (p26_q6, .inl (cB, 200, .inl (fun _ => 0))), (q33, .inr (4, [.null, .int (0 : Int32)]))]) rfl ?_
  refine G_dup F zd_X_init_36 rfl ?_
  refine G_bipush (v := (64 : Int32)) F zd_X_init_37 (by decide) ?_
  refine G_callI F (zn_R_init_64 l D cB cI cJ q33 ) (rest := [.ref q33, .ref xa]) [5] rfl rfl (fun _ => rfl) ci_X_11 rfl rfl ⟨Nat.le_of_ble_eq_true rfl, Nat.le_of_ble_eq_true rfl⟩ ⟨Nat.le_of_ble_eq_true rfl, Nat.le_of_ble_eq_true rfl⟩ rfl (Nat.le_of_ble_eq_true rfl) zd_X_init_39 rfl (fun u => ?_)
  obtain ⟨p39_q6, e39⟩ : ∃ z, z = u := ⟨u, rfl⟩
  subst e39
  refine G_ww (ws' := [(xa, .inr (7, [.ref q5, .ref q19, .null, .null, .null, .null, .null, .null, .null])), (q5, .inr (4, [.ref p12_q6, .int (0 : Int32)])), (p12_q6, .inl (cB, 160, .inl (fun _ => 0))), (q19, .inr (4, [.ref p26_q6, .int (0 : Int32)])), (p26_q6, .inl (cB, 200, .inl (fun _ => 0))), (q33, .inr (4, [.ref p39_q6, .int (0 : Int32)])), (p39_q6, .inl (cB, 64, .inl (fun _ => 0)))]) rfl ?_
  refine G_putF F I pf_X_21_X ⟨rfl, rfl⟩ zd_X_init_42 (q := 0) rfl (Nat.le_of_ble_eq_true rfl) (ws' := [(xa, .inr (7, [.ref q5, .ref q19, .ref q33, .null, .null, .null, .null, .null, .null])), (q5, .inr (4, [.ref p12_q6, .int (0 : Int32)])), (p12_q6, .inl (cB, 160, .inl (fun _ => 0))), (q19, .inr (4, [.ref p26_q6, .int (0 : Int32)])), (p26_q6, .inl (cB, 200, .inl (fun _ => 0))), (q33, .inr (4, [.ref p39_q6, .int (0 : Int32)])), (p39_q6, .inl (cB, 64, .inl (fun _ => 0)))]) rfl ?_
  refine G_aload_n F zd_X_init_45 rfl (j := 0) rfl ?_
  refine G_new F (tyX5) cn_X_7 (fs := [.null, .int (0 : Int32)]) (fun j hj => by rcases (show j = 0 ∨ j = 1 by omega) with rfl | rfl <;> rfl) ⟨Nat.le_of_ble_eq_true rfl, Nat.le_of_ble_eq_true rfl⟩ zd_X_init_46 (fun q46 => ?_)
  refine G_ww (ws' := [(xa, .inr (7, [.ref q5, .ref q19, .ref q33, .null, .null, .null, .null, .null, .null])), (q5, .inr (4, [.ref p12_q6, .int (0 : Int32)])), (p12_q6, .inl (cB, 160, .inl (fun _ => 0))), (q19, .inr (4, [.ref p26_q6, .int (0 : Int32)])), (p26_q6, .inl (cB, 200, .inl (fun _ => 0))), (q33, .inr (4, [.ref p39_q6, .int (0 : Int32)])), (p39_q6, .inl (cB, 64, .inl (fun _ => 0))), (q46, .inr (4, [.null, .int (0 : Int32)]))]) rfl ?_
  refine G_dup F zd_X_init_49 rfl ?_
  refine G_sipush (v := (160 : Int32)) F zd_X_init_50 (by decide) ?_
  refine G_callI F (zn_R_init_160 l D cB cI cJ q46 ) (rest := [.ref q46, .ref xa]) [7] rfl rfl (fun _ => rfl) ci_X_11 rfl rfl ⟨Nat.le_of_ble_eq_true rfl, Nat.le_of_ble_eq_true rfl⟩ ⟨Nat.le_of_ble_eq_true rfl, Nat.le_of_ble_eq_true rfl⟩ rfl (Nat.le_of_ble_eq_true rfl) zd_X_init_53 rfl (fun u => ?_)
  obtain ⟨p53_q6, e53⟩ : ∃ z, z = u := ⟨u, rfl⟩
  subst e53
  refine G_ww (ws' := [(xa, .inr (7, [.ref q5, .ref q19, .ref q33, .null, .null, .null, .null, .null, .null])), (q5, .inr (4, [.ref p12_q6, .int (0 : Int32)])), (p12_q6, .inl (cB, 160, .inl (fun _ => 0))), (q19, .inr (4, [.ref p26_q6, .int (0 : Int32)])), (p26_q6, .inl (cB, 200, .inl (fun _ => 0))), (q33, .inr (4, [.ref p39_q6, .int (0 : Int32)])), (p39_q6, .inl (cB, 64, .inl (fun _ => 0))), (q46, .inr (4, [.ref p53_q6, .int (0 : Int32)])), (p53_q6, .inl (cB, 160, .inl (fun _ => 0)))]) rfl ?_
  refine G_putF F I pf_X_24_X ⟨rfl, rfl⟩ zd_X_init_56 (q := 0) rfl (Nat.le_of_ble_eq_true rfl) (ws' := [(xa, .inr (7, [.ref q5, .ref q19, .ref q33, .ref q46, .null, .null, .null, .null, .null])), (q5, .inr (4, [.ref p12_q6, .int (0 : Int32)])), (p12_q6, .inl (cB, 160, .inl (fun _ => 0))), (q19, .inr (4, [.ref p26_q6, .int (0 : Int32)])), (p26_q6, .inl (cB, 200, .inl (fun _ => 0))), (q33, .inr (4, [.ref p39_q6, .int (0 : Int32)])), (p39_q6, .inl (cB, 64, .inl (fun _ => 0))), (q46, .inr (4, [.ref p53_q6, .int (0 : Int32)])), (p53_q6, .inl (cB, 160, .inl (fun _ => 0)))]) rfl ?_
  refine G_aload_n F zd_X_init_59 rfl (j := 0) rfl ?_
  refine G_new F (tyX3) cn_X_27 (fs := [.null, .null, .null, .null, .int (0 : Int32), .int (0 : Int32), .int (0 : Int32)]) (fun j hj => by rcases (show j = 0 ∨ j = 1 ∨ j = 2 ∨ j = 3 ∨ j = 4 ∨ j = 5 ∨ j = 6 by omega) with rfl | rfl | rfl | rfl | rfl | rfl | rfl <;> rfl) ⟨Nat.le_of_ble_eq_true rfl, Nat.le_of_ble_eq_true rfl⟩ zd_X_init_60 (fun q60 => ?_)
  refine G_ww (ws' := [(xa, .inr (7, [.ref q5, .ref q19, .ref q33, .ref q46, .null, .null, .null, .null, .null])), (q5, .inr (4, [.ref p12_q6, .int (0 : Int32)])), (p12_q6, .inl (cB, 160, .inl (fun _ => 0))), (q19, .inr (4, [.ref p26_q6, .int (0 : Int32)])), (p26_q6, .inl (cB, 200, .inl (fun _ => 0))), (q33, .inr (4, [.ref p39_q6, .int (0 : Int32)])), (p39_q6, .inl (cB, 64, .inl (fun _ => 0))), (q46, .inr (4, [.ref p53_q6, .int (0 : Int32)])), (p53_q6, .inl (cB, 160, .inl (fun _ => 0))), (q60, .inr (3, [.null, .null, .null, .null, .int (0 : Int32), .int (0 : Int32), .int (0 : Int32)]))]) rfl ?_
  refine G_dup F zd_X_init_63 rfl ?_
  refine G_aload_n F zd_X_init_64 rfl (j := 0) rfl ?_
  refine G_get F fa_X_21_X (q := 0) zd_X_init_65 rfl rfl ?_
  refine G_aload_n F zd_X_init_68 rfl (j := 0) rfl ?_
  refine G_get F fa_X_14_X (q := 0) zd_X_init_69 rfl rfl ?_
  refine G_callI F (zn_P_init l D cB cI cJ q60 q33 q5) (rest := [.ref q60, .ref xa]) [9] rfl rfl (fun _ => rfl) ci_X_29 rfl rfl ⟨Nat.le_of_ble_eq_true rfl, Nat.le_of_ble_eq_true rfl⟩ ⟨Nat.le_of_ble_eq_true rfl, Nat.le_of_ble_eq_true rfl⟩ rfl (Nat.le_of_ble_eq_true rfl) zd_X_init_72 rfl (fun u => ?_)
  obtain ⟨p72_q15, p72_q30⟩ := u
  refine G_ww (ws' := [(xa, .inr (7, [.ref q5, .ref q19, .ref q33, .ref q46, .null, .null, .null, .null, .null])), (q5, .inr (4, [.ref p12_q6, .int (0 : Int32)])), (p12_q6, .inl (cB, 160, .inl (fun _ => 0))), (q19, .inr (4, [.ref p26_q6, .int (0 : Int32)])), (p26_q6, .inl (cB, 200, .inl (fun _ => 0))), (q33, .inr (4, [.ref p39_q6, .int (0 : Int32)])), (p39_q6, .inl (cB, 64, .inl (fun _ => 0))), (q46, .inr (4, [.ref p53_q6, .int (0 : Int32)])), (p53_q6, .inl (cB, 160, .inl (fun _ => 0))), (q60, .inr (3, [.ref q33, .ref q5, .ref p72_q15, .ref p72_q30, .int (0 : Int32), .int (0 : Int32), .int (0 : Int32)])), (p72_q15, .inr (2, [.ref q33, .ref q5])), (p72_q30, .inl (cI, 32, .inl (fun _ => 0)))]) rfl ?_
  refine G_putF F I pf_X_32_X ⟨rfl, rfl⟩ zd_X_init_75 (q := 0) rfl (Nat.le_of_ble_eq_true rfl) (ws' := [(xa, .inr (7, [.ref q5, .ref q19, .ref q33, .ref q46, .ref q60, .null, .null, .null, .null])), (q5, .inr (4, [.ref p12_q6, .int (0 : Int32)])), (p12_q6, .inl (cB, 160, .inl (fun _ => 0))), (q19, .inr (4, [.ref p26_q6, .int (0 : Int32)])), (p26_q6, .inl (cB, 200, .inl (fun _ => 0))), (q33, .inr (4, [.ref p39_q6, .int (0 : Int32)])), (p39_q6, .inl (cB, 64, .inl (fun _ => 0))), (q46, .inr (4, [.ref p53_q6, .int (0 : Int32)])), (p53_q6, .inl (cB, 160, .inl (fun _ => 0))), (q60, .inr (3, [.ref q33, .ref q5, .ref p72_q15, .ref p72_q30, .int (0 : Int32), .int (0 : Int32), .int (0 : Int32)])), (p72_q15, .inr (2, [.ref q33, .ref q5])), (p72_q30, .inl (cI, 32, .inl (fun _ => 0)))]) rfl ?_
  refine G_aload_n F zd_X_init_78 rfl (j := 0) rfl ?_
  refine G_new F (tyX7) cn_X_36 (fs := [.null, .null]) (fun j hj => by rcases (show j = 0 ∨ j = 1 by omega) with rfl | rfl <;> rfl) ⟨Nat.le_of_ble_eq_true rfl, Nat.le_of_ble_eq_true rfl⟩ zd_X_init_79 (fun q79 => ?_)
  refine G_ww (ws' := [(xa, .inr (7, [.ref q5, .ref q19, .ref q33, .ref q46, .ref q60, .null, .null, .null, .null])), (q5, .inr (4, [.ref p12_q6, .int (0 : Int32)])), (p12_q6, .inl (cB, 160, .inl (fun _ => 0))), (q19, .inr (4, [.ref p26_q6, .int (0 : Int32)])), (p26_q6, .inl (cB, 200, .inl (fun _ => 0))), (q33, .inr (4, [.ref p39_q6, .int (0 : Int32)])), (p39_q6, .inl (cB, 64, .inl (fun _ => 0))), (q46, .inr (4, [.ref p53_q6, .int (0 : Int32)])), (p53_q6, .inl (cB, 160, .inl (fun _ => 0))), (q60, .inr (3, [.ref q33, .ref q5, .ref p72_q15, .ref p72_q30, .int (0 : Int32), .int (0 : Int32), .int (0 : Int32)])), (p72_q15, .inr (2, [.ref q33, .ref q5])), (p72_q30, .inl (cI, 32, .inl (fun _ => 0))), (q79, .inr (6, [.null, .null]))]) rfl ?_
  refine G_dup F zd_X_init_82 rfl ?_
  refine G_aload_n F zd_X_init_83 rfl (j := 0) rfl ?_
  refine G_get F fa_X_14_X (q := 0) zd_X_init_84 rfl rfl ?_
  refine G_aload_n F zd_X_init_87 rfl (j := 0) rfl ?_
  refine G_get F fa_X_18_X (q := 0) zd_X_init_88 rfl rfl ?_
  refine G_callI F (zn_SW_init l D cB cI cJ q79 q5 q19) (rest := [.ref q79, .ref xa]) [12] rfl rfl (fun _ => rfl) ci_X_38 rfl rfl ⟨Nat.le_of_ble_eq_true rfl, Nat.le_of_ble_eq_true rfl⟩ ⟨Nat.le_of_ble_eq_true rfl, Nat.le_of_ble_eq_true rfl⟩ rfl (Nat.le_of_ble_eq_true rfl) zd_X_init_91 rfl (fun u => ?_)
  refine G_ww (ws' := [(xa, .inr (7, [.ref q5, .ref q19, .ref q33, .ref q46, .ref q60, .null, .null, .null, .null])), (q5, .inr (4, [.ref p12_q6, .int (0 : Int32)])), (p12_q6, .inl (cB, 160, .inl (fun _ => 0))), (q19, .inr (4, [.ref p26_q6, .int (0 : Int32)])), (p26_q6, .inl (cB, 200, .inl (fun _ => 0))), (q33, .inr (4, [.ref p39_q6, .int (0 : Int32)])), (p39_q6, .inl (cB, 64, .inl (fun _ => 0))), (q46, .inr (4, [.ref p53_q6, .int (0 : Int32)])), (p53_q6, .inl (cB, 160, .inl (fun _ => 0))), (q60, .inr (3, [.ref q33, .ref q5, .ref p72_q15, .ref p72_q30, .int (0 : Int32), .int (0 : Int32), .int (0 : Int32)])), (p72_q15, .inr (2, [.ref q33, .ref q5])), (p72_q30, .inl (cI, 32, .inl (fun _ => 0))), (q79, .inr (6, [.ref q5, .ref q19]))]) rfl ?_
  refine G_putF F I pf_X_39_X ⟨rfl, rfl⟩ zd_X_init_94 (q := 0) rfl (Nat.le_of_ble_eq_true rfl) (ws' := [(xa, .inr (7, [.ref q5, .ref q19, .ref q33, .ref q46, .ref q60, .ref q79, .null, .null, .null])), (q5, .inr (4, [.ref p12_q6, .int (0 : Int32)])), (p12_q6, .inl (cB, 160, .inl (fun _ => 0))), (q19, .inr (4, [.ref p26_q6, .int (0 : Int32)])), (p26_q6, .inl (cB, 200, .inl (fun _ => 0))), (q33, .inr (4, [.ref p39_q6, .int (0 : Int32)])), (p39_q6, .inl (cB, 64, .inl (fun _ => 0))), (q46, .inr (4, [.ref p53_q6, .int (0 : Int32)])), (p53_q6, .inl (cB, 160, .inl (fun _ => 0))), (q60, .inr (3, [.ref q33, .ref q5, .ref p72_q15, .ref p72_q30, .int (0 : Int32), .int (0 : Int32), .int (0 : Int32)])), (p72_q15, .inr (2, [.ref q33, .ref q5])), (p72_q30, .inl (cI, 32, .inl (fun _ => 0))), (q79, .inr (6, [.ref q5, .ref q19]))]) rfl ?_
  refine G_aload_n F zd_X_init_97 rfl (j := 0) rfl ?_
  refine G_new F (tyX1) cn_X_43 (fs := [.null, .null]) (fun j hj => by rcases (show j = 0 ∨ j = 1 by omega) with rfl | rfl <;> rfl) ⟨Nat.le_of_ble_eq_true rfl, Nat.le_of_ble_eq_true rfl⟩ zd_X_init_98 (fun q98 => ?_)
  refine G_ww (ws' := [(xa, .inr (7, [.ref q5, .ref q19, .ref q33, .ref q46, .ref q60, .ref q79, .null, .null, .null])), (q5, .inr (4, [.ref p12_q6, .int (0 : Int32)])), (p12_q6, .inl (cB, 160, .inl (fun _ => 0))), (q19, .inr (4, [.ref p26_q6, .int (0 : Int32)])), (p26_q6, .inl (cB, 200, .inl (fun _ => 0))), (q33, .inr (4, [.ref p39_q6, .int (0 : Int32)])), (p39_q6, .inl (cB, 64, .inl (fun _ => 0))), (q46, .inr (4, [.ref p53_q6, .int (0 : Int32)])), (p53_q6, .inl (cB, 160, .inl (fun _ => 0))), (q60, .inr (3, [.ref q33, .ref q5, .ref p72_q15, .ref p72_q30, .int (0 : Int32), .int (0 : Int32), .int (0 : Int32)])), (p72_q15, .inr (2, [.ref q33, .ref q5])), (p72_q30, .inl (cI, 32, .inl (fun _ => 0))), (q79, .inr (6, [.ref q5, .ref q19])), (q98, .inr (1, [.null, .null]))]) rfl ?_
  refine G_dup F zd_X_init_101 rfl ?_
  refine G_aload_n F zd_X_init_102 rfl (j := 0) rfl ?_
  refine G_get F fa_X_14_X (q := 0) zd_X_init_103 rfl rfl ?_
  refine G_aload_n F zd_X_init_106 rfl (j := 0) rfl ?_
  refine G_get F fa_X_18_X (q := 0) zd_X_init_107 rfl rfl ?_
  refine G_callI F (zn_EW_init l D cB cI cJ q98 q5 q19) (rest := [.ref q98, .ref xa]) [13] rfl rfl (fun _ => rfl) ci_X_45 rfl rfl ⟨Nat.le_of_ble_eq_true rfl, Nat.le_of_ble_eq_true rfl⟩ ⟨Nat.le_of_ble_eq_true rfl, Nat.le_of_ble_eq_true rfl⟩ rfl (Nat.le_of_ble_eq_true rfl) zd_X_init_110 rfl (fun u => ?_)
  refine G_ww (ws' := [(xa, .inr (7, [.ref q5, .ref q19, .ref q33, .ref q46, .ref q60, .ref q79, .null, .null, .null])), (q5, .inr (4, [.ref p12_q6, .int (0 : Int32)])), (p12_q6, .inl (cB, 160, .inl (fun _ => 0))), (q19, .inr (4, [.ref p26_q6, .int (0 : Int32)])), (p26_q6, .inl (cB, 200, .inl (fun _ => 0))), (q33, .inr (4, [.ref p39_q6, .int (0 : Int32)])), (p39_q6, .inl (cB, 64, .inl (fun _ => 0))), (q46, .inr (4, [.ref p53_q6, .int (0 : Int32)])), (p53_q6, .inl (cB, 160, .inl (fun _ => 0))), (q60, .inr (3, [.ref q33, .ref q5, .ref p72_q15, .ref p72_q30, .int (0 : Int32), .int (0 : Int32), .int (0 : Int32)])), (p72_q15, .inr (2, [.ref q33, .ref q5])), (p72_q30, .inl (cI, 32, .inl (fun _ => 0))), (q79, .inr (6, [.ref q5, .ref q19])), (q98, .inr (1, [.ref q5, .ref q19]))]) rfl ?_
  refine G_putF F I pf_X_46_X ⟨rfl, rfl⟩ zd_X_init_113 (q := 0) rfl (Nat.le_of_ble_eq_true rfl) (ws' := [(xa, .inr (7, [.ref q5, .ref q19, .ref q33, .ref q46, .ref q60, .ref q79, .ref q98, .null, .null])), (q5, .inr (4, [.ref p12_q6, .int (0 : Int32)])), (p12_q6, .inl (cB, 160, .inl (fun _ => 0))), (q19, .inr (4, [.ref p26_q6, .int (0 : Int32)])), (p26_q6, .inl (cB, 200, .inl (fun _ => 0))), (q33, .inr (4, [.ref p39_q6, .int (0 : Int32)])), (p39_q6, .inl (cB, 64, .inl (fun _ => 0))), (q46, .inr (4, [.ref p53_q6, .int (0 : Int32)])), (p53_q6, .inl (cB, 160, .inl (fun _ => 0))), (q60, .inr (3, [.ref q33, .ref q5, .ref p72_q15, .ref p72_q30, .int (0 : Int32), .int (0 : Int32), .int (0 : Int32)])), (p72_q15, .inr (2, [.ref q33, .ref q5])), (p72_q30, .inl (cI, 32, .inl (fun _ => 0))), (q79, .inr (6, [.ref q5, .ref q19])), (q98, .inr (1, [.ref q5, .ref q19]))]) rfl ?_
  refine G_aload_n F zd_X_init_116 rfl (j := 0) rfl ?_
  refine G_new F (tyX6) cn_X_49 (fs := [.null, .null, .null, .int (0 : Int32), .int (0 : Int32)]) (fun j hj => by rcases (show j = 0 ∨ j = 1 ∨ j = 2 ∨ j = 3 ∨ j = 4 by omega) with rfl | rfl | rfl | rfl | rfl <;> rfl) ⟨Nat.le_of_ble_eq_true rfl, Nat.le_of_ble_eq_true rfl⟩ zd_X_init_117 (fun q117 => ?_)
  refine G_ww (ws' := [(xa, .inr (7, [.ref q5, .ref q19, .ref q33, .ref q46, .ref q60, .ref q79, .ref q98, .null, .null])), (q5, .inr (4, [.ref p12_q6, .int (0 : Int32)])), (p12_q6, .inl (cB, 160, .inl (fun _ => 0))), (q19, .inr (4, [.ref p26_q6, .int (0 : Int32)])), (p26_q6, .inl (cB, 200, .inl (fun _ => 0))), (q33, .inr (4, [.ref p39_q6, .int (0 : Int32)])), (p39_q6, .inl (cB, 64, .inl (fun _ => 0))), (q46, .inr (4, [.ref p53_q6, .int (0 : Int32)])), (p53_q6, .inl (cB, 160, .inl (fun _ => 0))), (q60, .inr (3, [.ref q33, .ref q5, .ref p72_q15, .ref p72_q30, .int (0 : Int32), .int (0 : Int32), .int (0 : Int32)])), (p72_q15, .inr (2, [.ref q33, .ref q5])), (p72_q30, .inl (cI, 32, .inl (fun _ => 0))), (q79, .inr (6, [.ref q5, .ref q19])), (q98, .inr (1, [.ref q5, .ref q19])), (q117, .inr (5, [.null, .null, .null, .int (0 : Int32), .int (0 : Int32)]))]) rfl ?_
  refine G_dup F zd_X_init_120 rfl ?_
  refine G_aload_n F zd_X_init_121 rfl (j := 0) rfl ?_
  refine G_get F fa_X_18_X (q := 0) zd_X_init_122 rfl rfl ?_
  refine G_aload_n F zd_X_init_125 rfl (j := 0) rfl ?_
  refine G_get F fa_X_21_X (q := 0) zd_X_init_126 rfl rfl ?_
  refine G_aload_n F zd_X_init_129 rfl (j := 0) rfl ?_
  refine G_get F fa_X_24_X (q := 0) zd_X_init_130 rfl rfl ?_
  refine G_callI F (zn_SR_init l D cB cI cJ q117 q19 q33 q46) (rest := [.ref q117, .ref xa]) [14] rfl rfl (fun _ => rfl) ci_X_51 rfl rfl ⟨Nat.le_of_ble_eq_true rfl, Nat.le_of_ble_eq_true rfl⟩ ⟨Nat.le_of_ble_eq_true rfl, Nat.le_of_ble_eq_true rfl⟩ rfl (Nat.le_of_ble_eq_true rfl) zd_X_init_133 rfl (fun u => ?_)
  obtain ⟨p133_p4_q15, e133⟩ : ∃ z, z = u := ⟨u, rfl⟩
  subst e133
  refine G_ww (ws' := [(xa, .inr (7, [.ref q5, .ref q19, .ref q33, .ref q46, .ref q60, .ref q79, .ref q98, .null, .null])), (q5, .inr (4, [.ref p12_q6, .int (0 : Int32)])), (p12_q6, .inl (cB, 160, .inl (fun _ => 0))), (q19, .inr (4, [.ref p26_q6, .int (0 : Int32)])), (p26_q6, .inl (cB, 200, .inl (fun _ => 0))), (q33, .inr (4, [.ref p39_q6, .int (0 : Int32)])), (p39_q6, .inl (cB, 64, .inl (fun _ => 0))), (q46, .inr (4, [.ref p53_q6, .int (0 : Int32)])), (p53_q6, .inl (cB, 160, .inl (fun _ => 0))), (q60, .inr (3, [.ref q33, .ref q5, .ref p72_q15, .ref p72_q30, .int (0 : Int32), .int (0 : Int32), .int (0 : Int32)])), (p72_q15, .inr (2, [.ref q33, .ref q5])), (p72_q30, .inl (cI, 32, .inl (fun _ => 0))), (q79, .inr (6, [.ref q5, .ref q19])), (q98, .inr (1, [.ref q5, .ref q19])), (q117, .inr (5, [.ref q19, .ref q46, .ref p133_p4_q15, .int (0 : Int32), .int (0 : Int32)])), (p133_p4_q15, .inr (2, [.ref q33, .ref q46]))]) rfl ?_
  refine G_putF F I pf_X_54_X ⟨rfl, rfl⟩ zd_X_init_136 (q := 0) rfl (Nat.le_of_ble_eq_true rfl) (ws' := [(xa, .inr (7, [.ref q5, .ref q19, .ref q33, .ref q46, .ref q60, .ref q79, .ref q98, .ref q117, .null])), (q5, .inr (4, [.ref p12_q6, .int (0 : Int32)])), (p12_q6, .inl (cB, 160, .inl (fun _ => 0))), (q19, .inr (4, [.ref p26_q6, .int (0 : Int32)])), (p26_q6, .inl (cB, 200, .inl (fun _ => 0))), (q33, .inr (4, [.ref p39_q6, .int (0 : Int32)])), (p39_q6, .inl (cB, 64, .inl (fun _ => 0))), (q46, .inr (4, [.ref p53_q6, .int (0 : Int32)])), (p53_q6, .inl (cB, 160, .inl (fun _ => 0))), (q60, .inr (3, [.ref q33, .ref q5, .ref p72_q15, .ref p72_q30, .int (0 : Int32), .int (0 : Int32), .int (0 : Int32)])), (p72_q15, .inr (2, [.ref q33, .ref q5])), (p72_q30, .inl (cI, 32, .inl (fun _ => 0))), (q79, .inr (6, [.ref q5, .ref q19])), (q98, .inr (1, [.ref q5, .ref q19])), (q117, .inr (5, [.ref q19, .ref q46, .ref p133_p4_q15, .int (0 : Int32), .int (0 : Int32)])), (p133_p4_q15, .inr (2, [.ref q33, .ref q46]))]) rfl ?_
  refine G_aload_n F zd_X_init_139 rfl (j := 0) rfl ?_
  refine G_new F (tyX0) cn_X_58 (fs := [.null, .null, .null, .int (0 : Int32), .int (0 : Int32), .int (0 : Int32)]) (fun j hj => by rcases (show j = 0 ∨ j = 1 ∨ j = 2 ∨ j = 3 ∨ j = 4 ∨ j = 5 by omega) with rfl | rfl | rfl | rfl | rfl | rfl <;> rfl) ⟨Nat.le_of_ble_eq_true rfl, Nat.le_of_ble_eq_true rfl⟩ zd_X_init_140 (fun q140 => ?_)
  refine G_ww (ws' := [(xa, .inr (7, [.ref q5, .ref q19, .ref q33, .ref q46, .ref q60, .ref q79, .ref q98, .ref q117, .null])), (q5, .inr (4, [.ref p12_q6, .int (0 : Int32)])), (p12_q6, .inl (cB, 160, .inl (fun _ => 0))), (q19, .inr (4, [.ref p26_q6, .int (0 : Int32)])), (p26_q6, .inl (cB, 200, .inl (fun _ => 0))), (q33, .inr (4, [.ref p39_q6, .int (0 : Int32)])), (p39_q6, .inl (cB, 64, .inl (fun _ => 0))), (q46, .inr (4, [.ref p53_q6, .int (0 : Int32)])), (p53_q6, .inl (cB, 160, .inl (fun _ => 0))), (q60, .inr (3, [.ref q33, .ref q5, .ref p72_q15, .ref p72_q30, .int (0 : Int32), .int (0 : Int32), .int (0 : Int32)])), (p72_q15, .inr (2, [.ref q33, .ref q5])), (p72_q30, .inl (cI, 32, .inl (fun _ => 0))), (q79, .inr (6, [.ref q5, .ref q19])), (q98, .inr (1, [.ref q5, .ref q19])), (q117, .inr (5, [.ref q19, .ref q46, .ref p133_p4_q15, .int (0 : Int32), .int (0 : Int32)])), (p133_p4_q15, .inr (2, [.ref q33, .ref q46])), (q140, .inr (0, [.null, .null, .null, .int (0 : Int32), .int (0 : Int32), .int (0 : Int32)]))]) rfl ?_
  refine G_dup F zd_X_init_143 rfl ?_
  refine G_aload_n F zd_X_init_144 rfl (j := 0) rfl ?_
  refine G_get F fa_X_18_X (q := 0) zd_X_init_145 rfl rfl ?_
  refine G_aload_n F zd_X_init_148 rfl (j := 0) rfl ?_
  refine G_get F fa_X_21_X (q := 0) zd_X_init_149 rfl rfl ?_
  refine G_aload_n F zd_X_init_152 rfl (j := 0) rfl ?_
  refine G_get F fa_X_24_X (q := 0) zd_X_init_153 rfl rfl ?_
  refine G_callI F (zn_ER_init l D cB cI cJ q140 q19 q33 q46) (rest := [.ref q140, .ref xa]) [16] rfl rfl (fun _ => rfl) ci_X_60 rfl rfl ⟨Nat.le_of_ble_eq_true rfl, Nat.le_of_ble_eq_true rfl⟩ ⟨Nat.le_of_ble_eq_true rfl, Nat.le_of_ble_eq_true rfl⟩ rfl (Nat.le_of_ble_eq_true rfl) zd_X_init_156 rfl (fun u => ?_)
  obtain ⟨p156_p4_q15, e156⟩ : ∃ z, z = u := ⟨u, rfl⟩
  subst e156
  refine G_ww (ws' := [(xa, .inr (7, [.ref q5, .ref q19, .ref q33, .ref q46, .ref q60, .ref q79, .ref q98, .ref q117, .null])), (q5, .inr (4, [.ref p12_q6, .int (0 : Int32)])), (p12_q6, .inl (cB, 160, .inl (fun _ => 0))), (q19, .inr (4, [.ref p26_q6, .int (0 : Int32)])), (p26_q6, .inl (cB, 200, .inl (fun _ => 0))), (q33, .inr (4, [.ref p39_q6, .int (0 : Int32)])), (p39_q6, .inl (cB, 64, .inl (fun _ => 0))), (q46, .inr (4, [.ref p53_q6, .int (0 : Int32)])), (p53_q6, .inl (cB, 160, .inl (fun _ => 0))), (q60, .inr (3, [.ref q33, .ref q5, .ref p72_q15, .ref p72_q30, .int (0 : Int32), .int (0 : Int32), .int (0 : Int32)])), (p72_q15, .inr (2, [.ref q33, .ref q5])), (p72_q30, .inl (cI, 32, .inl (fun _ => 0))), (q79, .inr (6, [.ref q5, .ref q19])), (q98, .inr (1, [.ref q5, .ref q19])), (q117, .inr (5, [.ref q19, .ref q46, .ref p133_p4_q15, .int (0 : Int32), .int (0 : Int32)])), (p133_p4_q15, .inr (2, [.ref q33, .ref q46])), (q140, .inr (0, [.ref q19, .ref q46, .ref p156_p4_q15, .int (0 : Int32), .int (0 : Int32), .int (0 : Int32)])), (p156_p4_q15, .inr (2, [.ref q33, .ref q46]))]) rfl ?_
  refine G_putF F I pf_X_61_X ⟨rfl, rfl⟩ zd_X_init_159 (q := 0) rfl (Nat.le_of_ble_eq_true rfl) (ws' := [(xa, .inr (7, [.ref q5, .ref q19, .ref q33, .ref q46, .ref q60, .ref q79, .ref q98, .ref q117, .ref q140])), (q5, .inr (4, [.ref p12_q6, .int (0 : Int32)])), (p12_q6, .inl (cB, 160, .inl (fun _ => 0))), (q19, .inr (4, [.ref p26_q6, .int (0 : Int32)])), (p26_q6, .inl (cB, 200, .inl (fun _ => 0))), (q33, .inr (4, [.ref p39_q6, .int (0 : Int32)])), (p39_q6, .inl (cB, 64, .inl (fun _ => 0))), (q46, .inr (4, [.ref p53_q6, .int (0 : Int32)])), (p53_q6, .inl (cB, 160, .inl (fun _ => 0))), (q60, .inr (3, [.ref q33, .ref q5, .ref p72_q15, .ref p72_q30, .int (0 : Int32), .int (0 : Int32), .int (0 : Int32)])), (p72_q15, .inr (2, [.ref q33, .ref q5])), (p72_q30, .inl (cI, 32, .inl (fun _ => 0))), (q79, .inr (6, [.ref q5, .ref q19])), (q98, .inr (1, [.ref q5, .ref q19])), (q117, .inr (5, [.ref q19, .ref q46, .ref p133_p4_q15, .int (0 : Int32), .int (0 : Int32)])), (p133_p4_q15, .inr (2, [.ref q33, .ref q46])), (q140, .inr (0, [.ref q19, .ref q46, .ref p156_p4_q15, .int (0 : Int32), .int (0 : Int32), .int (0 : Int32)])), (p156_p4_q15, .inr (2, [.ref q33, .ref q46]))]) rfl ?_
  refine G_perm (ws' := [(xa, .inr (7, [.ref q5, .ref q19, .ref q33, .ref q46, .ref q60, .ref q79, .ref q98, .ref q117, .ref q140])), (q5, .inr (4, [.ref p12_q6, .int (0 : Int32)])), (p12_q6, .inl (cB, 160, .inl (fun _ => 0))), (q19, .inr (4, [.ref p26_q6, .int (0 : Int32)])), (p26_q6, .inl (cB, 200, .inl (fun _ => 0))), (q33, .inr (4, [.ref p39_q6, .int (0 : Int32)])), (p39_q6, .inl (cB, 64, .inl (fun _ => 0))), (q46, .inr (4, [.ref p53_q6, .int (0 : Int32)])), (p53_q6, .inl (cB, 160, .inl (fun _ => 0))), (p72_q15, .inr (2, [.ref q33, .ref q5])), (q60, .inr (3, [.ref q33, .ref q5, .ref p72_q15, .ref p72_q30, .int (0 : Int32), .int (0 : Int32), .int (0 : Int32)])), (p72_q30, .inl (cI, 32, .inl (fun _ => 0))), (q79, .inr (6, [.ref q5, .ref q19])), (q98, .inr (1, [.ref q5, .ref q19])), (p133_p4_q15, .inr (2, [.ref q33, .ref q46])), (p156_p4_q15, .inr (2, [.ref q33, .ref q46])), (q117, .inr (5, [.ref q19, .ref q46, .ref p133_p4_q15, .int (0 : Int32), .int (0 : Int32)])), (q140, .inr (0, [.ref q19, .ref q46, .ref p156_p4_q15, .int (0 : Int32), .int (0 : Int32), .int (0 : Int32)]))]) [0, 1, 2, 3, 4, 5, 6, 7, 8, 10, 9, 11, 12, 13, 15, 17, 14, 16] rfl rfl ?_
  exact E 162 _ (q5, p12_q6, q19, p26_q6, q33, p39_q6, q46, p53_q6, q60, p72_q15, p72_q30, q79, q98, q117, p133_p4_q15, q140, p156_p4_q15) zd_X_init_162

set_option maxHeartbeats 4000000 in
set_option maxRecDepth 100000 in
theorem zn_M_init (l : Launch) (D : va_G) (cB cI cJ : ClassId) (xa  : Nat) : CoN l zy_M_init zw_M_init ({ frames := 1, cells := 4, slots := 859, locals := 20 }) D cB cI cJ [.ref xa] [(xa, .inr (8, [.int (0 : Int32), .null, .null, .int (0 : Int32), .int (0 : Int32), .null, .int (0 : Int32), .int (0 : Int32), .null, .int (0 : Int32), .int (0 : Int32), .int (0 : Int32)]))] (S := Nat × Nat × Nat × Nat) (fun u => [(xa, .inr (8, [.int (0 : Int32), .ref (u.1), .ref (u.2.1), .int (0 : Int32), .int (0 : Int32), .ref (u.2.2.1), .int (0 : Int32), .int (0 : Int32), .ref (u.2.2.2), .int (0 : Int32), .int (0 : Int32), .int (0 : Int32)]))]) (fun u => [(u.1, .inl (cI, 600, .inl (fun _ => 0))), (u.2.1, .inl (cI, 3, .inl (fun _ => 0))), (u.2.2.1, .inl (cI, 224, .inl (fun _ => 0))), (u.2.2.2, .inl (cI, 32, .inl (fun _ => 0)))]) 4 859 := by
  refine CoN.ofG (cc := zc_M_init) (maxL := 1) (own := RX10) (by decide) rfl rfl rfl (Nat.le_of_ble_eq_true rfl) (L0 := [(0, .ref xa)]) rfl (fun k F I E => ?_)
  refine G_aload_n F zd_M_init_0 rfl (j := 0) rfl ?_
  refine G_objInit F oi_M_1 ⟨by decide, by decide⟩ (Nat.le_of_ble_eq_true rfl) zd_M_init_1 ?_
  refine G_aload_n F zd_M_init_4 rfl (j := 0) rfl ?_
  refine G_sipush (v := (600 : Int32)) F zd_M_init_5 (by decide) ?_
  refine G_newI F aw_563 (by decide) (N := 600) rfl (by decide) ⟨Nat.le_of_ble_eq_true rfl, Nat.le_of_ble_eq_true rfl⟩ zd_M_init_8 (fun q8 => ?_)
  refine G_ww (ws' := [(xa, .inr (8, [.int (0 : Int32), .null, .null, .int (0 : Int32), .int (0 : Int32), .null, .int (0 : Int32), .int (0 : Int32), .null, .int (0 : Int32), .int (0 : Int32), .int (0 : Int32)])), (q8, .inl (cI, 600, .inl (fun _ => 0)))]) rfl ?_
  refine G_putF F I pf_M_7_M ⟨rfl, rfl⟩ zd_M_init_10 (q := 0) rfl (Nat.le_of_ble_eq_true rfl) (ws' := [(xa, .inr (8, [.int (0 : Int32), .ref q8, .null, .int (0 : Int32), .int (0 : Int32), .null, .int (0 : Int32), .int (0 : Int32), .null, .int (0 : Int32), .int (0 : Int32), .int (0 : Int32)])), (q8, .inl (cI, 600, .inl (fun _ => 0)))]) rfl ?_
  refine G_aload_n F zd_M_init_13 rfl (j := 0) rfl ?_
  refine G_iconst (v := (3 : Int32)) F zd_M_init_14 (by decide) ?_
  refine G_newI F aw_563 (by decide) (N := 3) rfl (by decide) ⟨Nat.le_of_ble_eq_true rfl, Nat.le_of_ble_eq_true rfl⟩ zd_M_init_15 (fun q15 => ?_)
  refine G_ww (ws' := [(xa, .inr (8, [.int (0 : Int32), .ref q8, .null, .int (0 : Int32), .int (0 : Int32), .null, .int (0 : Int32), .int (0 : Int32), .null, .int (0 : Int32), .int (0 : Int32), .int (0 : Int32)])), (q8, .inl (cI, 600, .inl (fun _ => 0))), (q15, .inl (cI, 3, .inl (fun _ => 0)))]) rfl ?_
  refine G_putF F I pf_M_13_M ⟨rfl, rfl⟩ zd_M_init_17 (q := 0) rfl (Nat.le_of_ble_eq_true rfl) (ws' := [(xa, .inr (8, [.int (0 : Int32), .ref q8, .ref q15, .int (0 : Int32), .int (0 : Int32), .null, .int (0 : Int32), .int (0 : Int32), .null, .int (0 : Int32), .int (0 : Int32), .int (0 : Int32)])), (q8, .inl (cI, 600, .inl (fun _ => 0))), (q15, .inl (cI, 3, .inl (fun _ => 0)))]) rfl ?_
  refine G_aload_n F zd_M_init_20 rfl (j := 0) rfl ?_
  refine G_sipush (v := (224 : Int32)) F zd_M_init_21 (by decide) ?_
  refine G_newI F aw_563 (by decide) (N := 224) rfl (by decide) ⟨Nat.le_of_ble_eq_true rfl, Nat.le_of_ble_eq_true rfl⟩ zd_M_init_24 (fun q24 => ?_)
  refine G_ww (ws' := [(xa, .inr (8, [.int (0 : Int32), .ref q8, .ref q15, .int (0 : Int32), .int (0 : Int32), .null, .int (0 : Int32), .int (0 : Int32), .null, .int (0 : Int32), .int (0 : Int32), .int (0 : Int32)])), (q8, .inl (cI, 600, .inl (fun _ => 0))), (q15, .inl (cI, 3, .inl (fun _ => 0))), (q24, .inl (cI, 224, .inl (fun _ => 0)))]) rfl ?_
  refine G_putF F I pf_M_16_M ⟨rfl, rfl⟩ zd_M_init_26 (q := 0) rfl (Nat.le_of_ble_eq_true rfl) (ws' := [(xa, .inr (8, [.int (0 : Int32), .ref q8, .ref q15, .int (0 : Int32), .int (0 : Int32), .ref q24, .int (0 : Int32), .int (0 : Int32), .null, .int (0 : Int32), .int (0 : Int32), .int (0 : Int32)])), (q8, .inl (cI, 600, .inl (fun _ => 0))), (q15, .inl (cI, 3, .inl (fun _ => 0))), (q24, .inl (cI, 224, .inl (fun _ => 0)))]) rfl ?_
  refine G_aload_n F zd_M_init_29 rfl (j := 0) rfl ?_
  refine G_bipush (v := (32 : Int32)) F zd_M_init_30 (by decide) ?_
  refine G_newI F aw_563 (by decide) (N := 32) rfl (by decide) ⟨Nat.le_of_ble_eq_true rfl, Nat.le_of_ble_eq_true rfl⟩ zd_M_init_32 (fun q32 => ?_)
  refine G_ww (ws' := [(xa, .inr (8, [.int (0 : Int32), .ref q8, .ref q15, .int (0 : Int32), .int (0 : Int32), .ref q24, .int (0 : Int32), .int (0 : Int32), .null, .int (0 : Int32), .int (0 : Int32), .int (0 : Int32)])), (q8, .inl (cI, 600, .inl (fun _ => 0))), (q15, .inl (cI, 3, .inl (fun _ => 0))), (q24, .inl (cI, 224, .inl (fun _ => 0))), (q32, .inl (cI, 32, .inl (fun _ => 0)))]) rfl ?_
  refine G_putF F I pf_M_19_M ⟨rfl, rfl⟩ zd_M_init_34 (q := 0) rfl (Nat.le_of_ble_eq_true rfl) (ws' := [(xa, .inr (8, [.int (0 : Int32), .ref q8, .ref q15, .int (0 : Int32), .int (0 : Int32), .ref q24, .int (0 : Int32), .int (0 : Int32), .ref q32, .int (0 : Int32), .int (0 : Int32), .int (0 : Int32)])), (q8, .inl (cI, 600, .inl (fun _ => 0))), (q15, .inl (cI, 3, .inl (fun _ => 0))), (q24, .inl (cI, 224, .inl (fun _ => 0))), (q32, .inl (cI, 32, .inl (fun _ => 0)))]) rfl ?_
  exact E 37 _ (q8, q15, q24, q32) zd_M_init_37

