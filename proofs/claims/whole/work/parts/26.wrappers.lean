theorem zd_L_put_0 : decode zc_L_put 0 = .ok (.aload_n 0, 1) := by decide +kernel
theorem zd_L_put_1 : decode zc_L_put 1 = .ok (.iload_n 1, 1) := by decide +kernel
theorem zd_L_put_2 : decode zc_L_put 2 = .ok (.lload_n 2, 1) := by decide +kernel
theorem zd_L_put_3 : decode zc_L_put 3 = .ok (.iload 4, 2) := by decide +kernel
theorem zd_L_put_5 : decode zc_L_put 5 = .ok (.invokevirtual 7, 3) := by decide +kernel
theorem zd_L_put_8 : decode zc_L_put 8 = .ok (.goto 11, 3) := by decide +kernel
theorem zd_L_put_11 : decode zc_L_put 11 = .ok (.astore 5, 2) := by decide +kernel
theorem zd_L_put_13 : decode zc_L_put 13 = .ok (.iconst 1, 1) := by decide +kernel
theorem zd_L_put_14 : decode zc_L_put 14 = .ok (.ireturn, 1) := by decide +kernel
theorem zd_L_put_15 : decode zc_L_put 15 = .ok (.astore 5, 2) := by decide +kernel
theorem zd_L_put_17 : decode zc_L_put 17 = .ok (.iconst 2, 1) := by decide +kernel
theorem zd_L_put_18 : decode zc_L_put 18 = .ok (.ireturn, 1) := by decide +kernel
theorem zd_L_put_19 : decode zc_L_put 19 = .ok (.iconst 0, 1) := by decide +kernel
theorem zd_L_put_20 : decode zc_L_put 20 = .ok (.ireturn, 1) := by decide +kernel
abbrev zh_L_put : List (Nat × Nat × Nat × Nat) := [(0, 8, 11, 13), (0, 8, 15, 15)]
abbrev zv_L_put : List Cond := .codeWith zy_L_put zc_L_put 6 (some .int) [(0, 8, 11, 13), (0, 8, 15, 15)] :: AW
theorem zd_L_empty_0 : decode zc_L_empty 0 = .ok (.aload_n 2, 1) := by decide +kernel
theorem zd_L_empty_1 : decode zc_L_empty 1 = .ok (.iconst 0, 1) := by decide +kernel
theorem zd_L_empty_2 : decode zc_L_empty 2 = .ok (.aload_n 0, 1) := by decide +kernel
theorem zd_L_empty_3 : decode zc_L_empty 3 = .ok (.iload_n 1, 1) := by decide +kernel
theorem zd_L_empty_4 : decode zc_L_empty 4 = .ok (.invokevirtual 17, 3) := by decide +kernel
theorem zd_L_empty_7 : decode zc_L_empty 7 = .ok (.i2l, 1) := by decide +kernel
theorem zd_L_empty_8 : decode zc_L_empty 8 = .ok (.lastore, 1) := by decide +kernel
theorem zd_L_empty_9 : decode zc_L_empty 9 = .ok (.goto 6, 3) := by decide +kernel
theorem zd_L_empty_12 : decode zc_L_empty 12 = .ok (.astore_n 3, 1) := by decide +kernel
theorem zd_L_empty_13 : decode zc_L_empty 13 = .ok (.iconst 1, 1) := by decide +kernel
theorem zd_L_empty_14 : decode zc_L_empty 14 = .ok (.ireturn, 1) := by decide +kernel
theorem zd_L_empty_15 : decode zc_L_empty 15 = .ok (.iconst 0, 1) := by decide +kernel
theorem zd_L_empty_16 : decode zc_L_empty 16 = .ok (.ireturn, 1) := by decide +kernel
abbrev zh_L_empty : List (Nat × Nat × Nat × Nat) := [(0, 9, 12, 13)]
abbrev zv_L_empty : List Cond := .codeWith zy_L_empty zc_L_empty 4 (some .int) [(0, 9, 12, 13)] :: AW
theorem zd_L_pack_0 : decode zc_L_pack 0 = .ok (.aload_n 2, 1) := by decide +kernel
theorem zd_L_pack_1 : decode zc_L_pack 1 = .ok (.iconst 0, 1) := by decide +kernel
theorem zd_L_pack_2 : decode zc_L_pack 2 = .ok (.aload_n 0, 1) := by decide +kernel
theorem zd_L_pack_3 : decode zc_L_pack 3 = .ok (.iload_n 1, 1) := by decide +kernel
theorem zd_L_pack_4 : decode zc_L_pack 4 = .ok (.invokevirtual 21, 3) := by decide +kernel
theorem zd_L_pack_7 : decode zc_L_pack 7 = .ok (.i2l, 1) := by decide +kernel
theorem zd_L_pack_8 : decode zc_L_pack 8 = .ok (.lastore, 1) := by decide +kernel
theorem zd_L_pack_9 : decode zc_L_pack 9 = .ok (.goto 6, 3) := by decide +kernel
theorem zd_L_pack_12 : decode zc_L_pack 12 = .ok (.astore_n 3, 1) := by decide +kernel
theorem zd_L_pack_13 : decode zc_L_pack 13 = .ok (.iconst 1, 1) := by decide +kernel
theorem zd_L_pack_14 : decode zc_L_pack 14 = .ok (.ireturn, 1) := by decide +kernel
theorem zd_L_pack_15 : decode zc_L_pack 15 = .ok (.iconst 0, 1) := by decide +kernel
theorem zd_L_pack_16 : decode zc_L_pack 16 = .ok (.ireturn, 1) := by decide +kernel
abbrev zh_L_pack : List (Nat × Nat × Nat × Nat) := [(0, 9, 12, 13)]
abbrev zv_L_pack : List Cond := .codeWith zy_L_pack zc_L_pack 4 (some .int) [(0, 9, 12, 13)] :: AW
theorem zd_L_unpack_0 : decode zc_L_unpack 0 = .ok (.aload_n 2, 1) := by decide +kernel
theorem zd_L_unpack_1 : decode zc_L_unpack 1 = .ok (.iconst 0, 1) := by decide +kernel
theorem zd_L_unpack_2 : decode zc_L_unpack 2 = .ok (.aload_n 0, 1) := by decide +kernel
theorem zd_L_unpack_3 : decode zc_L_unpack 3 = .ok (.iload_n 1, 1) := by decide +kernel
theorem zd_L_unpack_4 : decode zc_L_unpack 4 = .ok (.invokevirtual 24, 3) := by decide +kernel
theorem zd_L_unpack_7 : decode zc_L_unpack 7 = .ok (.i2l, 1) := by decide +kernel
theorem zd_L_unpack_8 : decode zc_L_unpack 8 = .ok (.lastore, 1) := by decide +kernel
theorem zd_L_unpack_9 : decode zc_L_unpack 9 = .ok (.goto 6, 3) := by decide +kernel
theorem zd_L_unpack_12 : decode zc_L_unpack 12 = .ok (.astore_n 3, 1) := by decide +kernel
theorem zd_L_unpack_13 : decode zc_L_unpack 13 = .ok (.iconst 1, 1) := by decide +kernel
theorem zd_L_unpack_14 : decode zc_L_unpack 14 = .ok (.ireturn, 1) := by decide +kernel
theorem zd_L_unpack_15 : decode zc_L_unpack 15 = .ok (.iconst 0, 1) := by decide +kernel
theorem zd_L_unpack_16 : decode zc_L_unpack 16 = .ok (.ireturn, 1) := by decide +kernel
abbrev zh_L_unpack : List (Nat × Nat × Nat × Nat) := [(0, 9, 12, 13)]
abbrev zv_L_unpack : List Cond := .codeWith zy_L_unpack zc_L_unpack 4 (some .int) [(0, 9, 12, 13)] :: AW
theorem zd_L_size_0 : decode zc_L_size 0 = .ok (.aload_n 2, 1) := by decide +kernel
theorem zd_L_size_1 : decode zc_L_size 1 = .ok (.iconst 0, 1) := by decide +kernel
theorem zd_L_size_2 : decode zc_L_size 2 = .ok (.aload_n 0, 1) := by decide +kernel
theorem zd_L_size_3 : decode zc_L_size 3 = .ok (.iload_n 1, 1) := by decide +kernel
theorem zd_L_size_4 : decode zc_L_size 4 = .ok (.invokevirtual 27, 3) := by decide +kernel
theorem zd_L_size_7 : decode zc_L_size 7 = .ok (.i2l, 1) := by decide +kernel
theorem zd_L_size_8 : decode zc_L_size 8 = .ok (.lastore, 1) := by decide +kernel
theorem zd_L_size_9 : decode zc_L_size 9 = .ok (.goto 6, 3) := by decide +kernel
theorem zd_L_size_12 : decode zc_L_size 12 = .ok (.astore_n 3, 1) := by decide +kernel
theorem zd_L_size_13 : decode zc_L_size 13 = .ok (.iconst 1, 1) := by decide +kernel
theorem zd_L_size_14 : decode zc_L_size 14 = .ok (.ireturn, 1) := by decide +kernel
theorem zd_L_size_15 : decode zc_L_size 15 = .ok (.iconst 0, 1) := by decide +kernel
theorem zd_L_size_16 : decode zc_L_size 16 = .ok (.ireturn, 1) := by decide +kernel
abbrev zh_L_size : List (Nat × Nat × Nat × Nat) := [(0, 9, 12, 13)]
abbrev zv_L_size : List Cond := .codeWith zy_L_size zc_L_size 4 (some .int) [(0, 9, 12, 13)] :: AW
theorem zd_L_get_0 : decode zc_L_get 0 = .ok (.aload_n 3, 1) := by decide +kernel
theorem zd_L_get_1 : decode zc_L_get 1 = .ok (.iconst 0, 1) := by decide +kernel
theorem zd_L_get_2 : decode zc_L_get 2 = .ok (.aload_n 0, 1) := by decide +kernel
theorem zd_L_get_3 : decode zc_L_get 3 = .ok (.iload_n 1, 1) := by decide +kernel
theorem zd_L_get_4 : decode zc_L_get 4 = .ok (.iload_n 2, 1) := by decide +kernel
theorem zd_L_get_5 : decode zc_L_get 5 = .ok (.invokevirtual 30, 3) := by decide +kernel
theorem zd_L_get_8 : decode zc_L_get 8 = .ok (.i2l, 1) := by decide +kernel
theorem zd_L_get_9 : decode zc_L_get 9 = .ok (.lastore, 1) := by decide +kernel
theorem zd_L_get_10 : decode zc_L_get 10 = .ok (.goto 11, 3) := by decide +kernel
theorem zd_L_get_13 : decode zc_L_get 13 = .ok (.astore 4, 2) := by decide +kernel
theorem zd_L_get_15 : decode zc_L_get 15 = .ok (.iconst 1, 1) := by decide +kernel
theorem zd_L_get_16 : decode zc_L_get 16 = .ok (.ireturn, 1) := by decide +kernel
theorem zd_L_get_17 : decode zc_L_get 17 = .ok (.astore 4, 2) := by decide +kernel
theorem zd_L_get_19 : decode zc_L_get 19 = .ok (.iconst 2, 1) := by decide +kernel
theorem zd_L_get_20 : decode zc_L_get 20 = .ok (.ireturn, 1) := by decide +kernel
theorem zd_L_get_21 : decode zc_L_get 21 = .ok (.iconst 0, 1) := by decide +kernel
theorem zd_L_get_22 : decode zc_L_get 22 = .ok (.ireturn, 1) := by decide +kernel
abbrev zh_L_get : List (Nat × Nat × Nat × Nat) := [(0, 10, 13, 13), (0, 10, 17, 15)]
abbrev zv_L_get : List Cond := .codeWith zy_L_get zc_L_get 5 (some .int) [(0, 10, 13, 13), (0, 10, 17, 15)] :: AW
theorem zd_L_found_0 : decode zc_L_found 0 = .ok (.aload_n 2, 1) := by decide +kernel
theorem zd_L_found_1 : decode zc_L_found 1 = .ok (.iconst 0, 1) := by decide +kernel
theorem zd_L_found_2 : decode zc_L_found 2 = .ok (.aload_n 0, 1) := by decide +kernel
theorem zd_L_found_3 : decode zc_L_found 3 = .ok (.iload_n 1, 1) := by decide +kernel
theorem zd_L_found_4 : decode zc_L_found 4 = .ok (.invokevirtual 34, 3) := by decide +kernel
theorem zd_L_found_7 : decode zc_L_found 7 = .ok (.i2l, 1) := by decide +kernel
theorem zd_L_found_8 : decode zc_L_found 8 = .ok (.lastore, 1) := by decide +kernel
theorem zd_L_found_9 : decode zc_L_found 9 = .ok (.goto 6, 3) := by decide +kernel
theorem zd_L_found_12 : decode zc_L_found 12 = .ok (.astore_n 3, 1) := by decide +kernel
theorem zd_L_found_13 : decode zc_L_found 13 = .ok (.iconst 1, 1) := by decide +kernel
theorem zd_L_found_14 : decode zc_L_found 14 = .ok (.ireturn, 1) := by decide +kernel
theorem zd_L_found_15 : decode zc_L_found 15 = .ok (.iconst 0, 1) := by decide +kernel
theorem zd_L_found_16 : decode zc_L_found 16 = .ok (.ireturn, 1) := by decide +kernel
abbrev zh_L_found : List (Nat × Nat × Nat × Nat) := [(0, 9, 12, 13)]
abbrev zv_L_found : List Cond := .codeWith zy_L_found zc_L_found 4 (some .int) [(0, 9, 12, 13)] :: AW
theorem zd_L_crc_0 : decode zc_L_crc 0 = .ok (.aload_n 2, 1) := by decide +kernel
theorem zd_L_crc_1 : decode zc_L_crc 1 = .ok (.iconst 0, 1) := by decide +kernel
theorem zd_L_crc_2 : decode zc_L_crc 2 = .ok (.aload_n 0, 1) := by decide +kernel
theorem zd_L_crc_3 : decode zc_L_crc 3 = .ok (.iload_n 1, 1) := by decide +kernel
theorem zd_L_crc_4 : decode zc_L_crc 4 = .ok (.invokevirtual 37, 3) := by decide +kernel
theorem zd_L_crc_7 : decode zc_L_crc 7 = .ok (.i2l, 1) := by decide +kernel
theorem zd_L_crc_8 : decode zc_L_crc 8 = .ok (.lastore, 1) := by decide +kernel
theorem zd_L_crc_9 : decode zc_L_crc 9 = .ok (.goto 6, 3) := by decide +kernel
theorem zd_L_crc_12 : decode zc_L_crc 12 = .ok (.astore_n 3, 1) := by decide +kernel
theorem zd_L_crc_13 : decode zc_L_crc 13 = .ok (.iconst 1, 1) := by decide +kernel
theorem zd_L_crc_14 : decode zc_L_crc 14 = .ok (.ireturn, 1) := by decide +kernel
theorem zd_L_crc_15 : decode zc_L_crc 15 = .ok (.iconst 0, 1) := by decide +kernel
theorem zd_L_crc_16 : decode zc_L_crc 16 = .ok (.ireturn, 1) := by decide +kernel
abbrev zh_L_crc : List (Nat × Nat × Nat × Nat) := [(0, 9, 12, 13)]
abbrev zv_L_crc : List Cond := .codeWith zy_L_crc zc_L_crc 4 (some .int) [(0, 9, 12, 13)] :: AW
theorem zd_L_hash_0 : decode zc_L_hash 0 = .ok (.aload_n 3, 1) := by decide +kernel
theorem zd_L_hash_1 : decode zc_L_hash 1 = .ok (.iconst 0, 1) := by decide +kernel
theorem zd_L_hash_2 : decode zc_L_hash 2 = .ok (.aload_n 0, 1) := by decide +kernel
theorem zd_L_hash_3 : decode zc_L_hash 3 = .ok (.iload_n 1, 1) := by decide +kernel
theorem zd_L_hash_4 : decode zc_L_hash 4 = .ok (.iload_n 2, 1) := by decide +kernel
theorem zd_L_hash_5 : decode zc_L_hash 5 = .ok (.invokevirtual 40, 3) := by decide +kernel
theorem zd_L_hash_8 : decode zc_L_hash 8 = .ok (.i2l, 1) := by decide +kernel
theorem zd_L_hash_9 : decode zc_L_hash 9 = .ok (.lastore, 1) := by decide +kernel
theorem zd_L_hash_10 : decode zc_L_hash 10 = .ok (.goto 7, 3) := by decide +kernel
theorem zd_L_hash_13 : decode zc_L_hash 13 = .ok (.astore 4, 2) := by decide +kernel
theorem zd_L_hash_15 : decode zc_L_hash 15 = .ok (.iconst 1, 1) := by decide +kernel
theorem zd_L_hash_16 : decode zc_L_hash 16 = .ok (.ireturn, 1) := by decide +kernel
theorem zd_L_hash_17 : decode zc_L_hash 17 = .ok (.iconst 0, 1) := by decide +kernel
theorem zd_L_hash_18 : decode zc_L_hash 18 = .ok (.ireturn, 1) := by decide +kernel
abbrev zh_L_hash : List (Nat × Nat × Nat × Nat) := [(0, 10, 13, 13)]
abbrev zv_L_hash : List Cond := .codeWith zy_L_hash zc_L_hash 5 (some .int) [(0, 10, 13, 13)] :: AW
theorem aw_600 : (Cond.methodLink RL 7 zy_X_put) ∈ AW := aw_of 254 (by decide +kernel) (by decide +kernel)
theorem aw_601 : (Cond.instanceMethod zy_X_put) ∈ AW := aw_of 255 (by decide +kernel) (by decide +kernel)
theorem aw_602 : (Cond.selects RX9 zy_X_put zy_X_put) ∈ AW := aw_of 256 (by decide +kernel) (by decide +kernel)
theorem aw_603 : (Cond.classLink RL 13 "java/lang/IllegalArgumentException") ∈ AW := aw_of 252 (by decide +kernel) (by decide +kernel)
theorem aw_604 : (Cond.classLink RL 15 "java/lang/IllegalStateException") ∈ AW := aw_of 253 (by decide +kernel) (by decide +kernel)
theorem aw_605 : (Cond.methodLink RL 17 zy_X_empty) ∈ AW := aw_of 356 (by decide +kernel) (by decide +kernel)
theorem aw_606 : (Cond.instanceMethod zy_X_empty) ∈ AW := aw_of 357 (by decide +kernel) (by decide +kernel)
theorem aw_607 : (Cond.selects RX9 zy_X_empty zy_X_empty) ∈ AW := aw_of 358 (by decide +kernel) (by decide +kernel)
theorem aw_608 : (Cond.methodLink RL 21 zy_X_pack) ∈ AW := aw_of 367 (by decide +kernel) (by decide +kernel)
theorem aw_609 : (Cond.instanceMethod zy_X_pack) ∈ AW := aw_of 368 (by decide +kernel) (by decide +kernel)
theorem aw_610 : (Cond.selects RX9 zy_X_pack zy_X_pack) ∈ AW := aw_of 369 (by decide +kernel) (by decide +kernel)
theorem aw_611 : (Cond.methodLink RL 24 zy_X_unpack) ∈ AW := aw_of 484 (by decide +kernel) (by decide +kernel)
theorem aw_612 : (Cond.instanceMethod zy_X_unpack) ∈ AW := aw_of 485 (by decide +kernel) (by decide +kernel)
theorem aw_613 : (Cond.selects RX9 zy_X_unpack zy_X_unpack) ∈ AW := aw_of 486 (by decide +kernel) (by decide +kernel)
theorem aw_614 : (Cond.methodLink RL 27 zy_X_size) ∈ AW := aw_of 631 (by decide +kernel) (by decide +kernel)
theorem aw_615 : (Cond.instanceMethod zy_X_size) ∈ AW := aw_of 632 (by decide +kernel) (by decide +kernel)
theorem aw_616 : (Cond.selects RX9 zy_X_size zy_X_size) ∈ AW := aw_of 633 (by decide +kernel) (by decide +kernel)
theorem aw_617 : (Cond.methodLink RL 30 zy_X_get) ∈ AW := aw_of 638 (by decide +kernel) (by decide +kernel)
theorem aw_618 : (Cond.instanceMethod zy_X_get) ∈ AW := aw_of 639 (by decide +kernel) (by decide +kernel)
theorem aw_619 : (Cond.selects RX9 zy_X_get zy_X_get) ∈ AW := aw_of 640 (by decide +kernel) (by decide +kernel)
theorem aw_620 : (Cond.methodLink RL 34 zy_X_found) ∈ AW := aw_of 647 (by decide +kernel) (by decide +kernel)
theorem aw_621 : (Cond.instanceMethod zy_X_found) ∈ AW := aw_of 648 (by decide +kernel) (by decide +kernel)
theorem aw_622 : (Cond.selects RX9 zy_X_found zy_X_found) ∈ AW := aw_of 649 (by decide +kernel) (by decide +kernel)
theorem aw_623 : (Cond.methodLink RL 37 zy_X_crc) ∈ AW := aw_of 655 (by decide +kernel) (by decide +kernel)
theorem aw_624 : (Cond.instanceMethod zy_X_crc) ∈ AW := aw_of 656 (by decide +kernel) (by decide +kernel)
theorem aw_625 : (Cond.selects RX9 zy_X_crc zy_X_crc) ∈ AW := aw_of 657 (by decide +kernel) (by decide +kernel)
theorem aw_626 : (Cond.methodLink RL 40 zy_X_hash) ∈ AW := aw_of 666 (by decide +kernel) (by decide +kernel)
theorem aw_627 : (Cond.instanceMethod zy_X_hash) ∈ AW := aw_of 667 (by decide +kernel) (by decide +kernel)
theorem aw_628 : (Cond.selects RX9 zy_X_hash zy_X_hash) ∈ AW := aw_of 668 (by decide +kernel) (by decide +kernel)
theorem aw_629 : (Cond.constantLong RL 47 4294967295) ∈ AW := aw_of 899 (by decide +kernel) (by decide +kernel)
theorem aw_630 : (Cond.methodLink RL 49 zy_L_put) ∈ AW := aw_of 249 (by decide +kernel) (by decide +kernel)
theorem aw_631 : (Cond.static zy_L_put) ∈ AW := aw_of 250 (by decide +kernel) (by decide +kernel)
theorem aw_632 : (Cond.initialized RL) ∈ AW := aw_of 43 (by decide +kernel) (by decide +kernel)
theorem aw_633 : (Cond.codeWith zy_L_put zc_L_put 6 (some .int) [(0, 8, 11, 13), (0, 8, 15, 15)]) ∈ AW := aw_of 251 (by decide +kernel) (by decide +kernel)
theorem aw_634 : (Cond.methodLink RL 54 zy_M_put) ∈ AW := aw_of 741 (by decide +kernel) (by decide +kernel)
theorem aw_635 : (Cond.instanceMethod zy_M_put) ∈ AW := aw_of 742 (by decide +kernel) (by decide +kernel)
theorem aw_636 : (Cond.selects RX10 zy_M_put zy_M_put) ∈ AW := aw_of 743 (by decide +kernel) (by decide +kernel)
theorem aw_637 : (Cond.methodLink RL 55 zy_M_thrown) ∈ AW := aw_of 737 (by decide +kernel) (by decide +kernel)
theorem aw_638 : (Cond.instanceMethod zy_M_thrown) ∈ AW := aw_of 738 (by decide +kernel) (by decide +kernel)
theorem aw_639 : (Cond.selects RX10 zy_M_thrown zy_M_thrown) ∈ AW := aw_of 739 (by decide +kernel) (by decide +kernel)
theorem aw_640 : (Cond.methodLink RL 59 zy_L_empty) ∈ AW := aw_of 353 (by decide +kernel) (by decide +kernel)
theorem aw_641 : (Cond.static zy_L_empty) ∈ AW := aw_of 354 (by decide +kernel) (by decide +kernel)
theorem aw_642 : (Cond.codeWith zy_L_empty zc_L_empty 4 (some .int) [(0, 9, 12, 13)]) ∈ AW := aw_of 355 (by decide +kernel) (by decide +kernel)
theorem aw_643 : (Cond.methodLink RL 62 zy_M_empty) ∈ AW := aw_of 756 (by decide +kernel) (by decide +kernel)
theorem aw_644 : (Cond.instanceMethod zy_M_empty) ∈ AW := aw_of 757 (by decide +kernel) (by decide +kernel)
theorem aw_645 : (Cond.selects RX10 zy_M_empty zy_M_empty) ∈ AW := aw_of 758 (by decide +kernel) (by decide +kernel)
theorem aw_646 : (Cond.methodLink RL 63 zy_L_pack) ∈ AW := aw_of 364 (by decide +kernel) (by decide +kernel)
theorem aw_647 : (Cond.static zy_L_pack) ∈ AW := aw_of 365 (by decide +kernel) (by decide +kernel)
theorem aw_648 : (Cond.codeWith zy_L_pack zc_L_pack 4 (some .int) [(0, 9, 12, 13)]) ∈ AW := aw_of 366 (by decide +kernel) (by decide +kernel)
theorem aw_649 : (Cond.methodLink RL 65 zy_M_pack) ∈ AW := aw_of 772 (by decide +kernel) (by decide +kernel)
theorem aw_650 : (Cond.instanceMethod zy_M_pack) ∈ AW := aw_of 773 (by decide +kernel) (by decide +kernel)
theorem aw_651 : (Cond.selects RX10 zy_M_pack zy_M_pack) ∈ AW := aw_of 774 (by decide +kernel) (by decide +kernel)
theorem aw_652 : (Cond.methodLink RL 66 zy_L_unpack) ∈ AW := aw_of 481 (by decide +kernel) (by decide +kernel)
theorem aw_653 : (Cond.static zy_L_unpack) ∈ AW := aw_of 482 (by decide +kernel) (by decide +kernel)
theorem aw_654 : (Cond.codeWith zy_L_unpack zc_L_unpack 4 (some .int) [(0, 9, 12, 13)]) ∈ AW := aw_of 483 (by decide +kernel) (by decide +kernel)
theorem aw_655 : (Cond.methodLink RL 68 zy_M_unpack) ∈ AW := aw_of 835 (by decide +kernel) (by decide +kernel)
theorem aw_656 : (Cond.instanceMethod zy_M_unpack) ∈ AW := aw_of 836 (by decide +kernel) (by decide +kernel)
theorem aw_657 : (Cond.selects RX10 zy_M_unpack zy_M_unpack) ∈ AW := aw_of 837 (by decide +kernel) (by decide +kernel)
theorem aw_658 : (Cond.methodLink RL 69 zy_L_size) ∈ AW := aw_of 628 (by decide +kernel) (by decide +kernel)
theorem aw_659 : (Cond.static zy_L_size) ∈ AW := aw_of 629 (by decide +kernel) (by decide +kernel)
theorem aw_660 : (Cond.codeWith zy_L_size zc_L_size 4 (some .int) [(0, 9, 12, 13)]) ∈ AW := aw_of 630 (by decide +kernel) (by decide +kernel)
theorem aw_661 : (Cond.methodLink RL 71 zy_M_size) ∈ AW := aw_of 760 (by decide +kernel) (by decide +kernel)
theorem aw_662 : (Cond.instanceMethod zy_M_size) ∈ AW := aw_of 761 (by decide +kernel) (by decide +kernel)
theorem aw_663 : (Cond.selects RX10 zy_M_size zy_M_size) ∈ AW := aw_of 762 (by decide +kernel) (by decide +kernel)
theorem aw_664 : (Cond.methodLink RL 72 zy_L_get) ∈ AW := aw_of 635 (by decide +kernel) (by decide +kernel)
theorem aw_665 : (Cond.static zy_L_get) ∈ AW := aw_of 636 (by decide +kernel) (by decide +kernel)
theorem aw_666 : (Cond.codeWith zy_L_get zc_L_get 5 (some .int) [(0, 10, 13, 13), (0, 10, 17, 15)]) ∈ AW := aw_of 637 (by decide +kernel) (by decide +kernel)
theorem aw_667 : (Cond.methodLink RL 75 zy_M_get) ∈ AW := aw_of 764 (by decide +kernel) (by decide +kernel)
theorem aw_668 : (Cond.instanceMethod zy_M_get) ∈ AW := aw_of 765 (by decide +kernel) (by decide +kernel)
theorem aw_669 : (Cond.selects RX10 zy_M_get zy_M_get) ∈ AW := aw_of 766 (by decide +kernel) (by decide +kernel)
theorem aw_670 : (Cond.methodLink RL 76 zy_L_found) ∈ AW := aw_of 644 (by decide +kernel) (by decide +kernel)
theorem aw_671 : (Cond.static zy_L_found) ∈ AW := aw_of 645 (by decide +kernel) (by decide +kernel)
theorem aw_672 : (Cond.codeWith zy_L_found zc_L_found 4 (some .int) [(0, 9, 12, 13)]) ∈ AW := aw_of 646 (by decide +kernel) (by decide +kernel)
theorem aw_673 : (Cond.methodLink RL 78 zy_M_found) ∈ AW := aw_of 768 (by decide +kernel) (by decide +kernel)
theorem aw_674 : (Cond.instanceMethod zy_M_found) ∈ AW := aw_of 769 (by decide +kernel) (by decide +kernel)
theorem aw_675 : (Cond.selects RX10 zy_M_found zy_M_found) ∈ AW := aw_of 770 (by decide +kernel) (by decide +kernel)
theorem aw_676 : (Cond.methodLink RL 79 zy_L_crc) ∈ AW := aw_of 652 (by decide +kernel) (by decide +kernel)
theorem aw_677 : (Cond.static zy_L_crc) ∈ AW := aw_of 653 (by decide +kernel) (by decide +kernel)
theorem aw_678 : (Cond.codeWith zy_L_crc zc_L_crc 4 (some .int) [(0, 9, 12, 13)]) ∈ AW := aw_of 654 (by decide +kernel) (by decide +kernel)
theorem aw_679 : (Cond.methodLink RL 81 zy_M_crc) ∈ AW := aw_of 875 (by decide +kernel) (by decide +kernel)
theorem aw_680 : (Cond.instanceMethod zy_M_crc) ∈ AW := aw_of 876 (by decide +kernel) (by decide +kernel)
theorem aw_681 : (Cond.selects RX10 zy_M_crc zy_M_crc) ∈ AW := aw_of 877 (by decide +kernel) (by decide +kernel)
theorem aw_682 : (Cond.methodLink RL 82 zy_L_hash) ∈ AW := aw_of 663 (by decide +kernel) (by decide +kernel)
theorem aw_683 : (Cond.static zy_L_hash) ∈ AW := aw_of 664 (by decide +kernel) (by decide +kernel)
theorem aw_684 : (Cond.codeWith zy_L_hash zc_L_hash 5 (some .int) [(0, 10, 13, 13)]) ∈ AW := aw_of 665 (by decide +kernel) (by decide +kernel)
theorem aw_685 : (Cond.methodLink RL 84 zy_M_hash) ∈ AW := aw_of 880 (by decide +kernel) (by decide +kernel)
theorem aw_686 : (Cond.instanceMethod zy_M_hash) ∈ AW := aw_of 881 (by decide +kernel) (by decide +kernel)
theorem aw_687 : (Cond.selects RX10 zy_M_hash zy_M_hash) ∈ AW := aw_of 882 (by decide +kernel) (by decide +kernel)
theorem cv_L_7_X : Cond.methodLink RL 7 zy_X_put ∈ AW ∧ Cond.instanceMethod zy_X_put ∈ AW ∧ Cond.selects (zy_X_put).cls zy_X_put zy_X_put ∈ AW ∧ Cond.initialized (zy_X_put).cls ∈ AW ∧ Cond.code zy_X_put zc_X_put 7 none ∈ AW ∧ (∃ (T : u_T) (N : Nat), zCl[7]? = some ((zy_X_put).cls, T, N)) ∧ (zy_X_put).cls ≠ "java/lang/invoke/MethodHandle" ∧ (zy_X_put).cls ≠ "java/lang/invoke/VarHandle" ∧ (parseMethodDescriptor (zy_X_put).desc).map (fun d => d.parameters.length) = some 3 := ⟨aw_600, aw_601, aw_602, aw_450, aw_535, ⟨_, _, rfl⟩, by decide, by decide, by decide⟩
theorem cv_L_17_X : Cond.methodLink RL 17 zy_X_empty ∈ AW ∧ Cond.instanceMethod zy_X_empty ∈ AW ∧ Cond.selects (zy_X_empty).cls zy_X_empty zy_X_empty ∈ AW ∧ Cond.initialized (zy_X_empty).cls ∈ AW ∧ Cond.code zy_X_empty zc_X_empty 4 (some .int) ∈ AW ∧ (∃ (T : u_T) (N : Nat), zCl[7]? = some ((zy_X_empty).cls, T, N)) ∧ (zy_X_empty).cls ≠ "java/lang/invoke/MethodHandle" ∧ (zy_X_empty).cls ≠ "java/lang/invoke/VarHandle" ∧ (parseMethodDescriptor (zy_X_empty).desc).map (fun d => d.parameters.length) = some 1 := ⟨aw_605, aw_606, aw_607, aw_450, aw_536, ⟨_, _, rfl⟩, by decide, by decide, by decide⟩
theorem cv_L_21_X : Cond.methodLink RL 21 zy_X_pack ∈ AW ∧ Cond.instanceMethod zy_X_pack ∈ AW ∧ Cond.selects (zy_X_pack).cls zy_X_pack zy_X_pack ∈ AW ∧ Cond.initialized (zy_X_pack).cls ∈ AW ∧ Cond.code zy_X_pack zc_X_pack 2 (some .int) ∈ AW ∧ (∃ (T : u_T) (N : Nat), zCl[7]? = some ((zy_X_pack).cls, T, N)) ∧ (zy_X_pack).cls ≠ "java/lang/invoke/MethodHandle" ∧ (zy_X_pack).cls ≠ "java/lang/invoke/VarHandle" ∧ (parseMethodDescriptor (zy_X_pack).desc).map (fun d => d.parameters.length) = some 1 := ⟨aw_608, aw_609, aw_610, aw_450, aw_537, ⟨_, _, rfl⟩, by decide, by decide, by decide⟩
theorem cv_L_24_X : Cond.methodLink RL 24 zy_X_unpack ∈ AW ∧ Cond.instanceMethod zy_X_unpack ∈ AW ∧ Cond.selects (zy_X_unpack).cls zy_X_unpack zy_X_unpack ∈ AW ∧ Cond.initialized (zy_X_unpack).cls ∈ AW ∧ Cond.code zy_X_unpack zc_X_unpack 3 (some .int) ∈ AW ∧ (∃ (T : u_T) (N : Nat), zCl[7]? = some ((zy_X_unpack).cls, T, N)) ∧ (zy_X_unpack).cls ≠ "java/lang/invoke/MethodHandle" ∧ (zy_X_unpack).cls ≠ "java/lang/invoke/VarHandle" ∧ (parseMethodDescriptor (zy_X_unpack).desc).map (fun d => d.parameters.length) = some 1 := ⟨aw_611, aw_612, aw_613, aw_450, aw_538, ⟨_, _, rfl⟩, by decide, by decide, by decide⟩
theorem cv_L_27_X : Cond.methodLink RL 27 zy_X_size ∈ AW ∧ Cond.instanceMethod zy_X_size ∈ AW ∧ Cond.selects (zy_X_size).cls zy_X_size zy_X_size ∈ AW ∧ Cond.initialized (zy_X_size).cls ∈ AW ∧ Cond.code zy_X_size zc_X_size 2 (some .int) ∈ AW ∧ (∃ (T : u_T) (N : Nat), zCl[7]? = some ((zy_X_size).cls, T, N)) ∧ (zy_X_size).cls ≠ "java/lang/invoke/MethodHandle" ∧ (zy_X_size).cls ≠ "java/lang/invoke/VarHandle" ∧ (parseMethodDescriptor (zy_X_size).desc).map (fun d => d.parameters.length) = some 1 := ⟨aw_614, aw_615, aw_616, aw_450, aw_539, ⟨_, _, rfl⟩, by decide, by decide, by decide⟩
theorem cv_L_30_X : Cond.methodLink RL 30 zy_X_get ∈ AW ∧ Cond.instanceMethod zy_X_get ∈ AW ∧ Cond.selects (zy_X_get).cls zy_X_get zy_X_get ∈ AW ∧ Cond.initialized (zy_X_get).cls ∈ AW ∧ Cond.code zy_X_get zc_X_get 4 (some .int) ∈ AW ∧ (∃ (T : u_T) (N : Nat), zCl[7]? = some ((zy_X_get).cls, T, N)) ∧ (zy_X_get).cls ≠ "java/lang/invoke/MethodHandle" ∧ (zy_X_get).cls ≠ "java/lang/invoke/VarHandle" ∧ (parseMethodDescriptor (zy_X_get).desc).map (fun d => d.parameters.length) = some 2 := ⟨aw_617, aw_618, aw_619, aw_450, aw_540, ⟨_, _, rfl⟩, by decide, by decide, by decide⟩
theorem cv_L_34_X : Cond.methodLink RL 34 zy_X_found ∈ AW ∧ Cond.instanceMethod zy_X_found ∈ AW ∧ Cond.selects (zy_X_found).cls zy_X_found zy_X_found ∈ AW ∧ Cond.initialized (zy_X_found).cls ∈ AW ∧ Cond.code zy_X_found zc_X_found 2 (some .int) ∈ AW ∧ (∃ (T : u_T) (N : Nat), zCl[7]? = some ((zy_X_found).cls, T, N)) ∧ (zy_X_found).cls ≠ "java/lang/invoke/MethodHandle" ∧ (zy_X_found).cls ≠ "java/lang/invoke/VarHandle" ∧ (parseMethodDescriptor (zy_X_found).desc).map (fun d => d.parameters.length) = some 1 := ⟨aw_620, aw_621, aw_622, aw_450, aw_541, ⟨_, _, rfl⟩, by decide, by decide, by decide⟩
theorem cv_L_37_X : Cond.methodLink RL 37 zy_X_crc ∈ AW ∧ Cond.instanceMethod zy_X_crc ∈ AW ∧ Cond.selects (zy_X_crc).cls zy_X_crc zy_X_crc ∈ AW ∧ Cond.initialized (zy_X_crc).cls ∈ AW ∧ Cond.code zy_X_crc zc_X_crc 5 (some .int) ∈ AW ∧ (∃ (T : u_T) (N : Nat), zCl[7]? = some ((zy_X_crc).cls, T, N)) ∧ (zy_X_crc).cls ≠ "java/lang/invoke/MethodHandle" ∧ (zy_X_crc).cls ≠ "java/lang/invoke/VarHandle" ∧ (parseMethodDescriptor (zy_X_crc).desc).map (fun d => d.parameters.length) = some 1 := ⟨aw_623, aw_624, aw_625, aw_450, aw_542, ⟨_, _, rfl⟩, by decide, by decide, by decide⟩
theorem cv_L_40_X : Cond.methodLink RL 40 zy_X_hash ∈ AW ∧ Cond.instanceMethod zy_X_hash ∈ AW ∧ Cond.selects (zy_X_hash).cls zy_X_hash zy_X_hash ∈ AW ∧ Cond.initialized (zy_X_hash).cls ∈ AW ∧ Cond.code zy_X_hash zc_X_hash 5 (some .int) ∈ AW ∧ (∃ (T : u_T) (N : Nat), zCl[7]? = some ((zy_X_hash).cls, T, N)) ∧ (zy_X_hash).cls ≠ "java/lang/invoke/MethodHandle" ∧ (zy_X_hash).cls ≠ "java/lang/invoke/VarHandle" ∧ (parseMethodDescriptor (zy_X_hash).desc).map (fun d => d.parameters.length) = some 2 := ⟨aw_626, aw_627, aw_628, aw_450, aw_543, ⟨_, _, rfl⟩, by decide, by decide, by decide⟩
theorem cl_L_49 : Cond.methodLink RL 49 zy_L_put ∈ AW ∧ Cond.static zy_L_put ∈ AW ∧ Cond.initialized (zy_L_put).cls ∈ AW ∧ Cond.codeWith zy_L_put zc_L_put 6 (some .int) [(0, 8, 11, 13), (0, 8, 15, 15)] ∈ AW ∧ (zy_L_put).cls ≠ "java/lang/invoke/MethodHandle" ∧ (zy_L_put).cls ≠ "java/lang/invoke/VarHandle" ∧ (parseMethodDescriptor (zy_L_put).desc).map (fun d => d.parameters.length) = some 4 := ⟨aw_630, aw_631, aw_632, aw_633, by decide, by decide, by decide⟩
theorem cv_L_54_M : Cond.methodLink RL 54 zy_M_put ∈ AW ∧ Cond.instanceMethod zy_M_put ∈ AW ∧ Cond.selects (zy_M_put).cls zy_M_put zy_M_put ∈ AW ∧ Cond.initialized (zy_M_put).cls ∈ AW ∧ Cond.code zy_M_put zc_M_put 7 none ∈ AW ∧ (∃ (T : u_T) (N : Nat), zCl[8]? = some ((zy_M_put).cls, T, N)) ∧ (zy_M_put).cls ≠ "java/lang/invoke/MethodHandle" ∧ (zy_M_put).cls ≠ "java/lang/invoke/VarHandle" ∧ (parseMethodDescriptor (zy_M_put).desc).map (fun d => d.parameters.length) = some 3 := ⟨aw_634, aw_635, aw_636, aw_308, aw_465, ⟨_, _, rfl⟩, by decide, by decide, by decide⟩
theorem cv_L_55_M : Cond.methodLink RL 55 zy_M_thrown ∈ AW ∧ Cond.instanceMethod zy_M_thrown ∈ AW ∧ Cond.selects (zy_M_thrown).cls zy_M_thrown zy_M_thrown ∈ AW ∧ Cond.initialized (zy_M_thrown).cls ∈ AW ∧ Cond.code zy_M_thrown zc_M_thrown 1 (some .int) ∈ AW ∧ (∃ (T : u_T) (N : Nat), zCl[8]? = some ((zy_M_thrown).cls, T, N)) ∧ (zy_M_thrown).cls ≠ "java/lang/invoke/MethodHandle" ∧ (zy_M_thrown).cls ≠ "java/lang/invoke/VarHandle" ∧ (parseMethodDescriptor (zy_M_thrown).desc).map (fun d => d.parameters.length) = some 0 := ⟨aw_637, aw_638, aw_639, aw_308, aw_464, ⟨_, _, rfl⟩, by decide, by decide, by decide⟩
theorem cl_L_59 : Cond.methodLink RL 59 zy_L_empty ∈ AW ∧ Cond.static zy_L_empty ∈ AW ∧ Cond.initialized (zy_L_empty).cls ∈ AW ∧ Cond.codeWith zy_L_empty zc_L_empty 4 (some .int) [(0, 9, 12, 13)] ∈ AW ∧ (zy_L_empty).cls ≠ "java/lang/invoke/MethodHandle" ∧ (zy_L_empty).cls ≠ "java/lang/invoke/VarHandle" ∧ (parseMethodDescriptor (zy_L_empty).desc).map (fun d => d.parameters.length) = some 3 := ⟨aw_640, aw_641, aw_632, aw_642, by decide, by decide, by decide⟩
theorem cv_L_62_M : Cond.methodLink RL 62 zy_M_empty ∈ AW ∧ Cond.instanceMethod zy_M_empty ∈ AW ∧ Cond.selects (zy_M_empty).cls zy_M_empty zy_M_empty ∈ AW ∧ Cond.initialized (zy_M_empty).cls ∈ AW ∧ Cond.code zy_M_empty zc_M_empty 3 (some .int) ∈ AW ∧ (∃ (T : u_T) (N : Nat), zCl[8]? = some ((zy_M_empty).cls, T, N)) ∧ (zy_M_empty).cls ≠ "java/lang/invoke/MethodHandle" ∧ (zy_M_empty).cls ≠ "java/lang/invoke/VarHandle" ∧ (parseMethodDescriptor (zy_M_empty).desc).map (fun d => d.parameters.length) = some 1 := ⟨aw_643, aw_644, aw_645, aw_308, aw_466, ⟨_, _, rfl⟩, by decide, by decide, by decide⟩
theorem cl_L_63 : Cond.methodLink RL 63 zy_L_pack ∈ AW ∧ Cond.static zy_L_pack ∈ AW ∧ Cond.initialized (zy_L_pack).cls ∈ AW ∧ Cond.codeWith zy_L_pack zc_L_pack 4 (some .int) [(0, 9, 12, 13)] ∈ AW ∧ (zy_L_pack).cls ≠ "java/lang/invoke/MethodHandle" ∧ (zy_L_pack).cls ≠ "java/lang/invoke/VarHandle" ∧ (parseMethodDescriptor (zy_L_pack).desc).map (fun d => d.parameters.length) = some 3 := ⟨aw_646, aw_647, aw_632, aw_648, by decide, by decide, by decide⟩
theorem cv_L_65_M : Cond.methodLink RL 65 zy_M_pack ∈ AW ∧ Cond.instanceMethod zy_M_pack ∈ AW ∧ Cond.selects (zy_M_pack).cls zy_M_pack zy_M_pack ∈ AW ∧ Cond.initialized (zy_M_pack).cls ∈ AW ∧ Cond.code zy_M_pack zc_M_pack 3 (some .int) ∈ AW ∧ (∃ (T : u_T) (N : Nat), zCl[8]? = some ((zy_M_pack).cls, T, N)) ∧ (zy_M_pack).cls ≠ "java/lang/invoke/MethodHandle" ∧ (zy_M_pack).cls ≠ "java/lang/invoke/VarHandle" ∧ (parseMethodDescriptor (zy_M_pack).desc).map (fun d => d.parameters.length) = some 1 := ⟨aw_649, aw_650, aw_651, aw_308, aw_470, ⟨_, _, rfl⟩, by decide, by decide, by decide⟩
theorem cl_L_66 : Cond.methodLink RL 66 zy_L_unpack ∈ AW ∧ Cond.static zy_L_unpack ∈ AW ∧ Cond.initialized (zy_L_unpack).cls ∈ AW ∧ Cond.codeWith zy_L_unpack zc_L_unpack 4 (some .int) [(0, 9, 12, 13)] ∈ AW ∧ (zy_L_unpack).cls ≠ "java/lang/invoke/MethodHandle" ∧ (zy_L_unpack).cls ≠ "java/lang/invoke/VarHandle" ∧ (parseMethodDescriptor (zy_L_unpack).desc).map (fun d => d.parameters.length) = some 3 := ⟨aw_652, aw_653, aw_632, aw_654, by decide, by decide, by decide⟩
theorem cv_L_68_M : Cond.methodLink RL 68 zy_M_unpack ∈ AW ∧ Cond.instanceMethod zy_M_unpack ∈ AW ∧ Cond.selects (zy_M_unpack).cls zy_M_unpack zy_M_unpack ∈ AW ∧ Cond.initialized (zy_M_unpack).cls ∈ AW ∧ Cond.code zy_M_unpack zc_M_unpack 3 (some .int) ∈ AW ∧ (∃ (T : u_T) (N : Nat), zCl[8]? = some ((zy_M_unpack).cls, T, N)) ∧ (zy_M_unpack).cls ≠ "java/lang/invoke/MethodHandle" ∧ (zy_M_unpack).cls ≠ "java/lang/invoke/VarHandle" ∧ (parseMethodDescriptor (zy_M_unpack).desc).map (fun d => d.parameters.length) = some 1 := ⟨aw_655, aw_656, aw_657, aw_308, aw_471, ⟨_, _, rfl⟩, by decide, by decide, by decide⟩
theorem cl_L_69 : Cond.methodLink RL 69 zy_L_size ∈ AW ∧ Cond.static zy_L_size ∈ AW ∧ Cond.initialized (zy_L_size).cls ∈ AW ∧ Cond.codeWith zy_L_size zc_L_size 4 (some .int) [(0, 9, 12, 13)] ∈ AW ∧ (zy_L_size).cls ≠ "java/lang/invoke/MethodHandle" ∧ (zy_L_size).cls ≠ "java/lang/invoke/VarHandle" ∧ (parseMethodDescriptor (zy_L_size).desc).map (fun d => d.parameters.length) = some 3 := ⟨aw_658, aw_659, aw_632, aw_660, by decide, by decide, by decide⟩
theorem cv_L_71_M : Cond.methodLink RL 71 zy_M_size ∈ AW ∧ Cond.instanceMethod zy_M_size ∈ AW ∧ Cond.selects (zy_M_size).cls zy_M_size zy_M_size ∈ AW ∧ Cond.initialized (zy_M_size).cls ∈ AW ∧ Cond.code zy_M_size zc_M_size 2 (some .int) ∈ AW ∧ (∃ (T : u_T) (N : Nat), zCl[8]? = some ((zy_M_size).cls, T, N)) ∧ (zy_M_size).cls ≠ "java/lang/invoke/MethodHandle" ∧ (zy_M_size).cls ≠ "java/lang/invoke/VarHandle" ∧ (parseMethodDescriptor (zy_M_size).desc).map (fun d => d.parameters.length) = some 1 := ⟨aw_661, aw_662, aw_663, aw_308, aw_467, ⟨_, _, rfl⟩, by decide, by decide, by decide⟩
theorem cl_L_72 : Cond.methodLink RL 72 zy_L_get ∈ AW ∧ Cond.static zy_L_get ∈ AW ∧ Cond.initialized (zy_L_get).cls ∈ AW ∧ Cond.codeWith zy_L_get zc_L_get 5 (some .int) [(0, 10, 13, 13), (0, 10, 17, 15)] ∈ AW ∧ (zy_L_get).cls ≠ "java/lang/invoke/MethodHandle" ∧ (zy_L_get).cls ≠ "java/lang/invoke/VarHandle" ∧ (parseMethodDescriptor (zy_L_get).desc).map (fun d => d.parameters.length) = some 4 := ⟨aw_664, aw_665, aw_632, aw_666, by decide, by decide, by decide⟩
theorem cv_L_75_M : Cond.methodLink RL 75 zy_M_get ∈ AW ∧ Cond.instanceMethod zy_M_get ∈ AW ∧ Cond.selects (zy_M_get).cls zy_M_get zy_M_get ∈ AW ∧ Cond.initialized (zy_M_get).cls ∈ AW ∧ Cond.code zy_M_get zc_M_get 4 (some .int) ∈ AW ∧ (∃ (T : u_T) (N : Nat), zCl[8]? = some ((zy_M_get).cls, T, N)) ∧ (zy_M_get).cls ≠ "java/lang/invoke/MethodHandle" ∧ (zy_M_get).cls ≠ "java/lang/invoke/VarHandle" ∧ (parseMethodDescriptor (zy_M_get).desc).map (fun d => d.parameters.length) = some 2 := ⟨aw_667, aw_668, aw_669, aw_308, aw_468, ⟨_, _, rfl⟩, by decide, by decide, by decide⟩
theorem cl_L_76 : Cond.methodLink RL 76 zy_L_found ∈ AW ∧ Cond.static zy_L_found ∈ AW ∧ Cond.initialized (zy_L_found).cls ∈ AW ∧ Cond.codeWith zy_L_found zc_L_found 4 (some .int) [(0, 9, 12, 13)] ∈ AW ∧ (zy_L_found).cls ≠ "java/lang/invoke/MethodHandle" ∧ (zy_L_found).cls ≠ "java/lang/invoke/VarHandle" ∧ (parseMethodDescriptor (zy_L_found).desc).map (fun d => d.parameters.length) = some 3 := ⟨aw_670, aw_671, aw_632, aw_672, by decide, by decide, by decide⟩
theorem cv_L_78_M : Cond.methodLink RL 78 zy_M_found ∈ AW ∧ Cond.instanceMethod zy_M_found ∈ AW ∧ Cond.selects (zy_M_found).cls zy_M_found zy_M_found ∈ AW ∧ Cond.initialized (zy_M_found).cls ∈ AW ∧ Cond.code zy_M_found zc_M_found 2 (some .int) ∈ AW ∧ (∃ (T : u_T) (N : Nat), zCl[8]? = some ((zy_M_found).cls, T, N)) ∧ (zy_M_found).cls ≠ "java/lang/invoke/MethodHandle" ∧ (zy_M_found).cls ≠ "java/lang/invoke/VarHandle" ∧ (parseMethodDescriptor (zy_M_found).desc).map (fun d => d.parameters.length) = some 1 := ⟨aw_673, aw_674, aw_675, aw_308, aw_469, ⟨_, _, rfl⟩, by decide, by decide, by decide⟩
theorem cl_L_79 : Cond.methodLink RL 79 zy_L_crc ∈ AW ∧ Cond.static zy_L_crc ∈ AW ∧ Cond.initialized (zy_L_crc).cls ∈ AW ∧ Cond.codeWith zy_L_crc zc_L_crc 4 (some .int) [(0, 9, 12, 13)] ∈ AW ∧ (zy_L_crc).cls ≠ "java/lang/invoke/MethodHandle" ∧ (zy_L_crc).cls ≠ "java/lang/invoke/VarHandle" ∧ (parseMethodDescriptor (zy_L_crc).desc).map (fun d => d.parameters.length) = some 3 := ⟨aw_676, aw_677, aw_632, aw_678, by decide, by decide, by decide⟩
theorem cv_L_81_M : Cond.methodLink RL 81 zy_M_crc ∈ AW ∧ Cond.instanceMethod zy_M_crc ∈ AW ∧ Cond.selects (zy_M_crc).cls zy_M_crc zy_M_crc ∈ AW ∧ Cond.initialized (zy_M_crc).cls ∈ AW ∧ Cond.code zy_M_crc zc_M_crc 6 (some .int) ∈ AW ∧ (∃ (T : u_T) (N : Nat), zCl[8]? = some ((zy_M_crc).cls, T, N)) ∧ (zy_M_crc).cls ≠ "java/lang/invoke/MethodHandle" ∧ (zy_M_crc).cls ≠ "java/lang/invoke/VarHandle" ∧ (parseMethodDescriptor (zy_M_crc).desc).map (fun d => d.parameters.length) = some 1 := ⟨aw_679, aw_680, aw_681, aw_308, aw_472, ⟨_, _, rfl⟩, by decide, by decide, by decide⟩
theorem cl_L_82 : Cond.methodLink RL 82 zy_L_hash ∈ AW ∧ Cond.static zy_L_hash ∈ AW ∧ Cond.initialized (zy_L_hash).cls ∈ AW ∧ Cond.codeWith zy_L_hash zc_L_hash 5 (some .int) [(0, 10, 13, 13)] ∈ AW ∧ (zy_L_hash).cls ≠ "java/lang/invoke/MethodHandle" ∧ (zy_L_hash).cls ≠ "java/lang/invoke/VarHandle" ∧ (parseMethodDescriptor (zy_L_hash).desc).map (fun d => d.parameters.length) = some 4 := ⟨aw_682, aw_683, aw_632, aw_684, by decide, by decide, by decide⟩
theorem cv_L_84_M : Cond.methodLink RL 84 zy_M_hash ∈ AW ∧ Cond.instanceMethod zy_M_hash ∈ AW ∧ Cond.selects (zy_M_hash).cls zy_M_hash zy_M_hash ∈ AW ∧ Cond.initialized (zy_M_hash).cls ∈ AW ∧ Cond.code zy_M_hash zc_M_hash 7 (some .int) ∈ AW ∧ (∃ (T : u_T) (N : Nat), zCl[8]? = some ((zy_M_hash).cls, T, N)) ∧ (zy_M_hash).cls ≠ "java/lang/invoke/MethodHandle" ∧ (zy_M_hash).cls ≠ "java/lang/invoke/VarHandle" ∧ (parseMethodDescriptor (zy_M_hash).desc).map (fun d => d.parameters.length) = some 2 := ⟨aw_685, aw_686, aw_687, aw_308, aw_473, ⟨_, _, rfl⟩, by decide, by decide, by decide⟩
def zf_L_put (qn : Int32) (qf : Nat → Int32) (sn : Int32) (sf : Nat → Int32) (pn : Int32) (pf : Nat → Int32) (i1 : Int32) (j2 : Int64) (i4 : Int32) : Option (Int32 × Int32 × (Nat → Int32) × Int32 × (Nat → Int32) × Int32 × (Nat → Int32)) := bc6 (zf_X_put qn qf sn sf pn pf i1 j2 i4) fun v1 v2 v3 v4 v5 v6 => some ((0 : Int32), v1, v2, v3, v4, v5, v6)
set_option maxHeartbeats 4000000 in
set_option maxRecDepth 100000 in
theorem zk_L_put (l : Launch) (D : va_G) (cB cI cJ : ClassId) (xa : Nat) (qa : Nat) (qb : Nat) (sa : Nat) (sb : Nat) (pa : Nat) (pb : Nat) (da : Nat) (db : Nat) (ka : Nat) (ha : Nat) (ta : Nat) (wa : Nat) (va : Nat) (hb : Nat) (hc : Nat) (ea : Nat) (ua : Nat) (qn : Int32) (qf : Nat → Int32) (sn : Int32) (sf : Nat → Int32) (pn : Int32) (pf : Nat → Int32) (dn : Int32) (df : Nat → Int32) (tf : Nat → Int32) (an : Int32) (mt : Int32) (co : Int32) (ra : Int32) (rr : Int32) (zra : Int32) (zrr : Int32) (zrp : Int32) (i1 : Int32) (j2 : Int64) (i4 : Int32) (r : Int32) (qn' : Int32) (qf' : Nat → Int32) (sn' : Int32) (sf' : Nat → Int32) (pn' : Int32) (pf' : Nat → Int32) (h : zf_L_put qn qf sn sf pn pf i1 j2 i4 = some (r, qn', qf', sn', sf', pn', pf')) : CoI l zy_L_put zv_L_put { frames := 2, cells := 0, slots := 0, locals := 47 } D cB cI cJ [.ref xa, .int i1, .long j2, .int i4] [(xa, .inr (7, [.ref qa, .ref sa, .ref pa, .ref da, .ref ka, .ref wa, .ref va, .ref ea, .ref ua])), (qa, .inr (4, [.ref qb, .int qn])), (qb, .inl (cB, 160, .inl qf)), (sa, .inr (4, [.ref sb, .int sn])), (sb, .inl (cB, 200, .inl sf)), (pa, .inr (4, [.ref pb, .int pn])), (pb, .inl (cB, 64, .inl pf)), (da, .inr (4, [.ref db, .int dn])), (db, .inl (cB, 160, .inl df)), (ha, .inr (2, [.ref pa, .ref qa])), (ka, .inr (3, [.ref pa, .ref qa, .ref ha, .ref ta, .int an, .int mt, .int co])), (ta, .inl (cI, 32, .inl tf)), (wa, .inr (6, [.ref qa, .ref sa])), (va, .inr (1, [.ref qa, .ref sa])), (hb, .inr (2, [.ref pa, .ref da])), (hc, .inr (2, [.ref pa, .ref da])), (ea, .inr (5, [.ref sa, .ref da, .ref hb, .int ra, .int rr])), (ua, .inr (0, [.ref sa, .ref da, .ref hc, .int zra, .int zrr, .int zrp]))] r [(xa, .inr (7, [.ref qa, .ref sa, .ref pa, .ref da, .ref ka, .ref wa, .ref va, .ref ea, .ref ua])), (qa, .inr (4, [.ref qb, .int qn'])), (qb, .inl (cB, 160, .inl qf')), (sa, .inr (4, [.ref sb, .int sn'])), (sb, .inl (cB, 200, .inl sf')), (pa, .inr (4, [.ref pb, .int pn'])), (pb, .inl (cB, 64, .inl pf')), (da, .inr (4, [.ref db, .int dn])), (db, .inl (cB, 160, .inl df)), (ha, .inr (2, [.ref pa, .ref qa])), (ka, .inr (3, [.ref pa, .ref qa, .ref ha, .ref ta, .int an, .int mt, .int co])), (ta, .inl (cI, 32, .inl tf)), (wa, .inr (6, [.ref qa, .ref sa])), (va, .inr (1, [.ref qa, .ref sa])), (hb, .inr (2, [.ref pa, .ref da])), (hc, .inr (2, [.ref pa, .ref da])), (ea, .inr (5, [.ref sa, .ref da, .ref hb, .int ra, .int rr])), (ua, .inr (0, [.ref sa, .ref da, .ref hc, .int zra, .int zrr, .int zrp]))] := by
  unfold zf_L_put at h
  refine CoI.ofGW (hh := zh_L_put) (cc := zc_L_put) (maxL := 6) (own := RL) (by decide) rfl rfl rfl trivial (Nat.le_of_ble_eq_true rfl) (L0 := [(0, .ref xa), (1, .int i1), (2, .long j2), (4, .int i4)]) rfl (fun k F E => ?_)
  refine G_aload_n F zd_L_put_0 rfl (j := 0) rfl ?_
  refine G_iload_n F zd_L_put_1 rfl (j := 1) rfl ?_
  refine G_lload_n F zd_L_put_2 rfl (j := 2) rfl ?_
  refine G_iload F zd_L_put_3 (j := 3) rfl ?_
  obtain ⟨v1, v2, v3, v4, v5, v6, hc5, h⟩ := bc6_s h
  refine G_callvV F (zk_X_put l D cB cI cJ xa qa qb sa sb pa pb da db ka ha ta wa va hb hc ea ua qn qf sn sf pn pf dn df tf an mt co ra rr zra zrr zrp i1 j2 i4 v1 v2 v3 v4 v5 v6 hc5) (rest := []) [0, 1, 2, 3, 4, 5, 6, 7, 8, 9, 10, 11, 12, 13, 14, 15, 16, 17] rfl rfl rfl (ws' := [(xa, .inr (7, [.ref qa, .ref sa, .ref pa, .ref da, .ref ka, .ref wa, .ref va, .ref ea, .ref ua])), (qa, .inr (4, [.ref qb, .int v1])), (qb, .inl (cB, 160, .inl v2)), (sa, .inr (4, [.ref sb, .int v3])), (sb, .inl (cB, 200, .inl v4)), (pa, .inr (4, [.ref pb, .int v5])), (pb, .inl (cB, 64, .inl v6)), (da, .inr (4, [.ref db, .int dn])), (db, .inl (cB, 160, .inl df)), (ha, .inr (2, [.ref pa, .ref qa])), (ka, .inr (3, [.ref pa, .ref qa, .ref ha, .ref ta, .int an, .int mt, .int co])), (ta, .inl (cI, 32, .inl tf)), (wa, .inr (6, [.ref qa, .ref sa])), (va, .inr (1, [.ref qa, .ref sa])), (hb, .inr (2, [.ref pa, .ref da])), (hc, .inr (2, [.ref pa, .ref da])), (ea, .inr (5, [.ref sa, .ref da, .ref hb, .int ra, .int rr])), (ua, .inr (0, [.ref sa, .ref da, .ref hc, .int zra, .int zrr, .int zrp]))]) (by simp only [setsW, List.set]) (q0 := 0) rfl cv_L_7_X rfl rfl ⟨Nat.le_of_ble_eq_true rfl, Nat.le_of_ble_eq_true rfl⟩ hf0 rfl (Nat.le_of_ble_eq_true rfl) zd_L_put_5 rfl ?_
  refine G_goto F zd_L_put_8 (tgt := 19) rfl ?_
  refine G_iconst (v := (0 : Int32)) F zd_L_put_19 (by decide) ?_
  obtain ⟨q1, q2, q3, q4, q5, q6, q7⟩ := inj7 h
  subst q1
  subst q2
  subst q3
  subst q4
  subst q5
  subst q6
  subst q7
  exact E 20 _ zd_L_put_20

set_option maxHeartbeats 4000000 in
set_option maxRecDepth 100000 in
theorem zx_L_put_IA (l : Launch) (hl : l.stackTraces = false) (D : va_G) (cB cI cJ : ClassId) (xa : Nat) (qa : Nat) (qb : Nat) (sa : Nat) (sb : Nat) (pa : Nat) (pb : Nat) (da : Nat) (db : Nat) (ka : Nat) (ha : Nat) (ta : Nat) (wa : Nat) (va : Nat) (hb : Nat) (hc : Nat) (ea : Nat) (ua : Nat) (qn : Int32) (qf : Nat → Int32) (sn : Int32) (sf : Nat → Int32) (pn : Int32) (pf : Nat → Int32) (dn : Int32) (df : Nat → Int32) (tf : Nat → Int32) (an : Int32) (mt : Int32) (co : Int32) (ra : Int32) (rr : Int32) (zra : Int32) (zrr : Int32) (zrp : Int32) (i1 : Int32) (j2 : Int64) (i4 : Int32) (h : zf_X_put_IA qn sn pn i1 i4 = some ()) : CoC l zy_L_put zv_L_put { frames := 8, cells := 1, slots := 6, locals := 137 } D cB cI cJ [.ref xa, .int i1, .long j2, .int i4] [(xa, .inr (7, [.ref qa, .ref sa, .ref pa, .ref da, .ref ka, .ref wa, .ref va, .ref ea, .ref ua])), (qa, .inr (4, [.ref qb, .int qn])), (qb, .inl (cB, 160, .inl qf)), (sa, .inr (4, [.ref sb, .int sn])), (sb, .inl (cB, 200, .inl sf)), (pa, .inr (4, [.ref pb, .int pn])), (pb, .inl (cB, 64, .inl pf)), (da, .inr (4, [.ref db, .int dn])), (db, .inl (cB, 160, .inl df)), (ha, .inr (2, [.ref pa, .ref qa])), (ka, .inr (3, [.ref pa, .ref qa, .ref ha, .ref ta, .int an, .int mt, .int co])), (ta, .inl (cI, 32, .inl tf)), (wa, .inr (6, [.ref qa, .ref sa])), (va, .inr (1, [.ref qa, .ref sa])), (hb, .inr (2, [.ref pa, .ref da])), (hc, .inr (2, [.ref pa, .ref da])), (ea, .inr (5, [.ref sa, .ref da, .ref hb, .int ra, .int rr])), (ua, .inr (0, [.ref sa, .ref da, .ref hc, .int zra, .int zrr, .int zrp]))] 1 := by
  refine CoC.ofG (hh := zh_L_put) (cc := zc_L_put) (maxL := 6) (own := RL) (by decide) rfl rfl (Nat.le_of_ble_eq_true rfl) (L0 := [(0, .ref xa), (1, .int i1), (2, .long j2), (4, .int i4)]) rfl (fun k F X B E => ?_)
  refine G_aload_n F zd_L_put_0 rfl (j := 0) rfl ?_
  refine G_iload_n F zd_L_put_1 rfl (j := 1) rfl ?_
  refine G_lload_n F zd_L_put_2 rfl (j := 2) rfl ?_
  refine G_iload F zd_L_put_3 (j := 3) rfl ?_
  refine G_cV F X B (zk_X_put_IA l hl D cB cI cJ xa qa qb sa sb pa pb da db ka ha ta wa va hb hc ea ua qn qf sn sf pn pf dn df tf an mt co ra rr zra zrr zrp i1 j2 i4 h) (rest := []) [0, 1, 2, 3, 4, 5, 6, 7, 8, 9, 10, 11, 12, 13, 14, 15, 16, 17] rfl rfl (q0 := 0) rfl cv_L_7_X rfl rfl ⟨Nat.le_of_ble_eq_true rfl, Nat.le_of_ble_eq_true rfl⟩ ⟨Nat.le_of_ble_eq_true rfl, Nat.le_of_ble_eq_true rfl⟩ rfl (Nat.le_of_ble_eq_true rfl) zd_L_put_5 rfl [] (⟨0, 8, 11, 13⟩ : ExceptionTableEntry) [(⟨0, 8, 15, 15⟩ : ExceptionTableEntry)] rfl (fun z hz => nomatch hz) (by decide) (by decide) aw_603 (Or.inl rfl) (fun q => ?_)
  refine G_astore F zd_L_put_11 (by decide) (L' := [(5, .ref q), (0, .ref xa), (1, .int i1), (2, .long j2), (4, .int i4)]) rfl ?_
  refine G_iconst (v := (1 : Int32)) F zd_L_put_13 (by decide) ?_
  exact E 14 _ zd_L_put_14

set_option maxHeartbeats 4000000 in
set_option maxRecDepth 100000 in
theorem zx_L_put_IS (l : Launch) (hl : l.stackTraces = false) (D : va_G) (cB cI cJ : ClassId) (xa : Nat) (qa : Nat) (qb : Nat) (sa : Nat) (sb : Nat) (pa : Nat) (pb : Nat) (da : Nat) (db : Nat) (ka : Nat) (ha : Nat) (ta : Nat) (wa : Nat) (va : Nat) (hb : Nat) (hc : Nat) (ea : Nat) (ua : Nat) (qn : Int32) (qf : Nat → Int32) (sn : Int32) (sf : Nat → Int32) (pn : Int32) (pf : Nat → Int32) (dn : Int32) (df : Nat → Int32) (tf : Nat → Int32) (an : Int32) (mt : Int32) (co : Int32) (ra : Int32) (rr : Int32) (zra : Int32) (zrr : Int32) (zrp : Int32) (i1 : Int32) (j2 : Int64) (i4 : Int32) (h : zf_X_put_IS qn sn pn i1 i4 = some ()) : CoC l zy_L_put zv_L_put { frames := 7, cells := 1, slots := 6, locals := 116 } D cB cI cJ [.ref xa, .int i1, .long j2, .int i4] [(xa, .inr (7, [.ref qa, .ref sa, .ref pa, .ref da, .ref ka, .ref wa, .ref va, .ref ea, .ref ua])), (qa, .inr (4, [.ref qb, .int qn])), (qb, .inl (cB, 160, .inl qf)), (sa, .inr (4, [.ref sb, .int sn])), (sb, .inl (cB, 200, .inl sf)), (pa, .inr (4, [.ref pb, .int pn])), (pb, .inl (cB, 64, .inl pf)), (da, .inr (4, [.ref db, .int dn])), (db, .inl (cB, 160, .inl df)), (ha, .inr (2, [.ref pa, .ref qa])), (ka, .inr (3, [.ref pa, .ref qa, .ref ha, .ref ta, .int an, .int mt, .int co])), (ta, .inl (cI, 32, .inl tf)), (wa, .inr (6, [.ref qa, .ref sa])), (va, .inr (1, [.ref qa, .ref sa])), (hb, .inr (2, [.ref pa, .ref da])), (hc, .inr (2, [.ref pa, .ref da])), (ea, .inr (5, [.ref sa, .ref da, .ref hb, .int ra, .int rr])), (ua, .inr (0, [.ref sa, .ref da, .ref hc, .int zra, .int zrr, .int zrp]))] 2 := by
  refine CoC.ofG (hh := zh_L_put) (cc := zc_L_put) (maxL := 6) (own := RL) (by decide) rfl rfl (Nat.le_of_ble_eq_true rfl) (L0 := [(0, .ref xa), (1, .int i1), (2, .long j2), (4, .int i4)]) rfl (fun k F X B E => ?_)
  refine G_aload_n F zd_L_put_0 rfl (j := 0) rfl ?_
  refine G_iload_n F zd_L_put_1 rfl (j := 1) rfl ?_
  refine G_lload_n F zd_L_put_2 rfl (j := 2) rfl ?_
  refine G_iload F zd_L_put_3 (j := 3) rfl ?_
  refine G_cV F X B (zk_X_put_IS l hl D cB cI cJ xa qa qb sa sb pa pb da db ka ha ta wa va hb hc ea ua qn qf sn sf pn pf dn df tf an mt co ra rr zra zrr zrp i1 j2 i4 h) (rest := []) [0, 1, 2, 3, 4, 5, 6, 7, 8, 9, 10, 11, 12, 13, 14, 15, 16, 17] rfl rfl (q0 := 0) rfl cv_L_7_X rfl rfl ⟨Nat.le_of_ble_eq_true rfl, Nat.le_of_ble_eq_true rfl⟩ ⟨Nat.le_of_ble_eq_true rfl, Nat.le_of_ble_eq_true rfl⟩ rfl (Nat.le_of_ble_eq_true rfl) zd_L_put_5 rfl [(⟨0, 8, 11, 13⟩ : ExceptionTableEntry)] (⟨0, 8, 15, 15⟩ : ExceptionTableEntry) [] rfl (fun z hz => by rw [List.mem_singleton.mp hz]; exact ⟨by decide, aw_603, rfl⟩) (by decide) (by decide) aw_604 (Or.inr rfl) (fun q => ?_)
  refine G_astore F zd_L_put_15 (by decide) (L' := [(5, .ref q), (0, .ref xa), (1, .int i1), (2, .long j2), (4, .int i4)]) rfl ?_
  refine G_iconst (v := (2 : Int32)) F zd_L_put_17 (by decide) ?_
  exact E 18 _ zd_L_put_18

def zf_L_empty (qn : Int32) (sn : Int32) (pn : Int32) (i1 : Int32) (ox : Nat → Int64) : Option (Int32 × Int32 × Int32 × Int32 × (Nat → Int64)) := bc4 (zf_X_empty qn sn pn i1) fun v1 v2 v3 v4 => gd (¬ ((0 : Int32) < 0 ∨ 1 ≤ Int32.toNatClampNeg (0 : Int32))) <| bnd (vp_updL ox (Int32.toNatClampNeg (0 : Int32)) (v1.toInt64)) fun v5 => some ((0 : Int32), v2, v3, v4, v5)
set_option maxHeartbeats 4000000 in
set_option maxRecDepth 100000 in
theorem zk_L_empty (l : Launch) (D : va_G) (cB cI cJ : ClassId) (xa : Nat) (qa : Nat) (qb : Nat) (sa : Nat) (sb : Nat) (pa : Nat) (pb : Nat) (da : Nat) (db : Nat) (ka : Nat) (ha : Nat) (ta : Nat) (wa : Nat) (va : Nat) (hb : Nat) (hc : Nat) (ea : Nat) (ua : Nat) (oa : Nat) (qn : Int32) (qf : Nat → Int32) (sn : Int32) (sf : Nat → Int32) (pn : Int32) (pf : Nat → Int32) (dn : Int32) (df : Nat → Int32) (tf : Nat → Int32) (an : Int32) (mt : Int32) (co : Int32) (ra : Int32) (rr : Int32) (zra : Int32) (zrr : Int32) (zrp : Int32) (i1 : Int32) (ox : Nat → Int64) (r : Int32) (qn' : Int32) (sn' : Int32) (pn' : Int32) (ox' : Nat → Int64) (h : zf_L_empty qn sn pn i1 ox = some (r, qn', sn', pn', ox')) : CoI l zy_L_empty zv_L_empty { frames := 2, cells := 0, slots := 0, locals := 44 } D cB cI cJ [.ref xa, .int i1, .ref oa] [(xa, .inr (7, [.ref qa, .ref sa, .ref pa, .ref da, .ref ka, .ref wa, .ref va, .ref ea, .ref ua])), (qa, .inr (4, [.ref qb, .int qn])), (qb, .inl (cB, 160, .inl qf)), (sa, .inr (4, [.ref sb, .int sn])), (sb, .inl (cB, 200, .inl sf)), (pa, .inr (4, [.ref pb, .int pn])), (pb, .inl (cB, 64, .inl pf)), (da, .inr (4, [.ref db, .int dn])), (db, .inl (cB, 160, .inl df)), (ha, .inr (2, [.ref pa, .ref qa])), (ka, .inr (3, [.ref pa, .ref qa, .ref ha, .ref ta, .int an, .int mt, .int co])), (ta, .inl (cI, 32, .inl tf)), (wa, .inr (6, [.ref qa, .ref sa])), (va, .inr (1, [.ref qa, .ref sa])), (hb, .inr (2, [.ref pa, .ref da])), (hc, .inr (2, [.ref pa, .ref da])), (ea, .inr (5, [.ref sa, .ref da, .ref hb, .int ra, .int rr])), (ua, .inr (0, [.ref sa, .ref da, .ref hc, .int zra, .int zrr, .int zrp])), (oa, .inl (cJ, 1, .inr (.inl ox)))] r [(xa, .inr (7, [.ref qa, .ref sa, .ref pa, .ref da, .ref ka, .ref wa, .ref va, .ref ea, .ref ua])), (qa, .inr (4, [.ref qb, .int qn'])), (qb, .inl (cB, 160, .inl qf)), (sa, .inr (4, [.ref sb, .int sn'])), (sb, .inl (cB, 200, .inl sf)), (pa, .inr (4, [.ref pb, .int pn'])), (pb, .inl (cB, 64, .inl pf)), (da, .inr (4, [.ref db, .int dn])), (db, .inl (cB, 160, .inl df)), (ha, .inr (2, [.ref pa, .ref qa])), (ka, .inr (3, [.ref pa, .ref qa, .ref ha, .ref ta, .int an, .int mt, .int co])), (ta, .inl (cI, 32, .inl tf)), (wa, .inr (6, [.ref qa, .ref sa])), (va, .inr (1, [.ref qa, .ref sa])), (hb, .inr (2, [.ref pa, .ref da])), (hc, .inr (2, [.ref pa, .ref da])), (ea, .inr (5, [.ref sa, .ref da, .ref hb, .int ra, .int rr])), (ua, .inr (0, [.ref sa, .ref da, .ref hc, .int zra, .int zrr, .int zrp])), (oa, .inl (cJ, 1, .inr (.inl ox')))] := by
  unfold zf_L_empty at h
  refine CoI.ofGW (hh := zh_L_empty) (cc := zc_L_empty) (maxL := 4) (own := RL) (by decide) rfl rfl rfl trivial (Nat.le_of_ble_eq_true rfl) (L0 := [(0, .ref xa), (1, .int i1), (2, .ref oa)]) rfl (fun k F E => ?_)
  refine G_aload_n F zd_L_empty_0 rfl (j := 2) rfl ?_
  refine G_iconst (v := (0 : Int32)) F zd_L_empty_1 (by decide) ?_
  refine G_aload_n F zd_L_empty_2 rfl (j := 0) rfl ?_
  refine G_iload_n F zd_L_empty_3 rfl (j := 1) rfl ?_
  obtain ⟨v1, v2, v3, v4, hc4, h⟩ := bc4_s h
  refine G_calliV F (zk_X_empty l D cB cI cJ xa qa qb sa sb pa pb da db ka ha ta wa va hb hc ea ua qn qf sn sf pn pf dn df tf an mt co ra rr zra zrr zrp i1 v1 v2 v3 v4 hc4) (rest := [.int (0 : Int32), .ref oa]) [0, 1, 2, 3, 4, 5, 6, 7, 8, 9, 10, 11, 12, 13, 14, 15, 16, 17] rfl rfl rfl (ws' := [(xa, .inr (7, [.ref qa, .ref sa, .ref pa, .ref da, .ref ka, .ref wa, .ref va, .ref ea, .ref ua])), (qa, .inr (4, [.ref qb, .int v2])), (qb, .inl (cB, 160, .inl qf)), (sa, .inr (4, [.ref sb, .int v3])), (sb, .inl (cB, 200, .inl sf)), (pa, .inr (4, [.ref pb, .int v4])), (pb, .inl (cB, 64, .inl pf)), (da, .inr (4, [.ref db, .int dn])), (db, .inl (cB, 160, .inl df)), (ha, .inr (2, [.ref pa, .ref qa])), (ka, .inr (3, [.ref pa, .ref qa, .ref ha, .ref ta, .int an, .int mt, .int co])), (ta, .inl (cI, 32, .inl tf)), (wa, .inr (6, [.ref qa, .ref sa])), (va, .inr (1, [.ref qa, .ref sa])), (hb, .inr (2, [.ref pa, .ref da])), (hc, .inr (2, [.ref pa, .ref da])), (ea, .inr (5, [.ref sa, .ref da, .ref hb, .int ra, .int rr])), (ua, .inr (0, [.ref sa, .ref da, .ref hc, .int zra, .int zrr, .int zrp])), (oa, .inl (cJ, 1, .inr (.inl ox)))]) (by simp only [setsW, List.set]) (q0 := 0) rfl cv_L_17_X rfl rfl ⟨Nat.le_of_ble_eq_true rfl, Nat.le_of_ble_eq_true rfl⟩ hf0 rfl (Nat.le_of_ble_eq_true rfl) zd_L_empty_4 rfl ?_
  refine G_i2l F zd_L_empty_7 ?_
  obtain ⟨h0, h⟩ := gd_s h
  obtain ⟨v5, ev5, h⟩ := bnd_s h
  refine G_lastore F zd_L_empty_8 (q := 18) rfl h0 ev5 (ws' := [(xa, .inr (7, [.ref qa, .ref sa, .ref pa, .ref da, .ref ka, .ref wa, .ref va, .ref ea, .ref ua])), (qa, .inr (4, [.ref qb, .int v2])), (qb, .inl (cB, 160, .inl qf)), (sa, .inr (4, [.ref sb, .int v3])), (sb, .inl (cB, 200, .inl sf)), (pa, .inr (4, [.ref pb, .int v4])), (pb, .inl (cB, 64, .inl pf)), (da, .inr (4, [.ref db, .int dn])), (db, .inl (cB, 160, .inl df)), (ha, .inr (2, [.ref pa, .ref qa])), (ka, .inr (3, [.ref pa, .ref qa, .ref ha, .ref ta, .int an, .int mt, .int co])), (ta, .inl (cI, 32, .inl tf)), (wa, .inr (6, [.ref qa, .ref sa])), (va, .inr (1, [.ref qa, .ref sa])), (hb, .inr (2, [.ref pa, .ref da])), (hc, .inr (2, [.ref pa, .ref da])), (ea, .inr (5, [.ref sa, .ref da, .ref hb, .int ra, .int rr])), (ua, .inr (0, [.ref sa, .ref da, .ref hc, .int zra, .int zrr, .int zrp])), (oa, .inl (cJ, 1, .inr (.inl v5)))]) rfl ?_
  refine G_goto F zd_L_empty_9 (tgt := 15) rfl ?_
  refine G_iconst (v := (0 : Int32)) F zd_L_empty_15 (by decide) ?_
  obtain ⟨q1, q2, q3, q4, q5⟩ := inj5 h
  subst q1
  subst q2
  subst q3
  subst q4
  subst q5
  exact E 16 _ zd_L_empty_16

set_option maxHeartbeats 4000000 in
set_option maxRecDepth 100000 in
theorem zx_L_empty_IA (l : Launch) (hl : l.stackTraces = false) (D : va_G) (cB cI cJ : ClassId) (xa : Nat) (qa : Nat) (qb : Nat) (sa : Nat) (sb : Nat) (pa : Nat) (pb : Nat) (da : Nat) (db : Nat) (ka : Nat) (ha : Nat) (ta : Nat) (wa : Nat) (va : Nat) (hb : Nat) (hc : Nat) (ea : Nat) (ua : Nat) (oa : Nat) (qn : Int32) (qf : Nat → Int32) (sn : Int32) (sf : Nat → Int32) (pn : Int32) (pf : Nat → Int32) (dn : Int32) (df : Nat → Int32) (tf : Nat → Int32) (an : Int32) (mt : Int32) (co : Int32) (ra : Int32) (rr : Int32) (zra : Int32) (zrr : Int32) (zrp : Int32) (i1 : Int32) (ox : Nat → Int64) (h : zf_X_empty_IA i1 = some ()) : CoC l zy_L_empty zv_L_empty { frames := 8, cells := 1, slots := 6, locals := 134 } D cB cI cJ [.ref xa, .int i1, .ref oa] [(xa, .inr (7, [.ref qa, .ref sa, .ref pa, .ref da, .ref ka, .ref wa, .ref va, .ref ea, .ref ua])), (qa, .inr (4, [.ref qb, .int qn])), (qb, .inl (cB, 160, .inl qf)), (sa, .inr (4, [.ref sb, .int sn])), (sb, .inl (cB, 200, .inl sf)), (pa, .inr (4, [.ref pb, .int pn])), (pb, .inl (cB, 64, .inl pf)), (da, .inr (4, [.ref db, .int dn])), (db, .inl (cB, 160, .inl df)), (ha, .inr (2, [.ref pa, .ref qa])), (ka, .inr (3, [.ref pa, .ref qa, .ref ha, .ref ta, .int an, .int mt, .int co])), (ta, .inl (cI, 32, .inl tf)), (wa, .inr (6, [.ref qa, .ref sa])), (va, .inr (1, [.ref qa, .ref sa])), (hb, .inr (2, [.ref pa, .ref da])), (hc, .inr (2, [.ref pa, .ref da])), (ea, .inr (5, [.ref sa, .ref da, .ref hb, .int ra, .int rr])), (ua, .inr (0, [.ref sa, .ref da, .ref hc, .int zra, .int zrr, .int zrp])), (oa, .inl (cJ, 1, .inr (.inl ox)))] 1 := by
  refine CoC.ofG (hh := zh_L_empty) (cc := zc_L_empty) (maxL := 4) (own := RL) (by decide) rfl rfl (Nat.le_of_ble_eq_true rfl) (L0 := [(0, .ref xa), (1, .int i1), (2, .ref oa)]) rfl (fun k F X B E => ?_)
  refine G_aload_n F zd_L_empty_0 rfl (j := 2) rfl ?_
  refine G_iconst (v := (0 : Int32)) F zd_L_empty_1 (by decide) ?_
  refine G_aload_n F zd_L_empty_2 rfl (j := 0) rfl ?_
  refine G_iload_n F zd_L_empty_3 rfl (j := 1) rfl ?_
  refine G_cV F X B (zk_X_empty_IA l hl D cB cI cJ xa qa qb sa sb pa pb da db ka ha ta wa va hb hc ea ua qn qf sn sf pn pf dn df tf an mt co ra rr zra zrr zrp i1 h) (rest := [.int (0 : Int32), .ref oa]) [0, 1, 2, 3, 4, 5, 6, 7, 8, 9, 10, 11, 12, 13, 14, 15, 16, 17] rfl rfl (q0 := 0) rfl cv_L_17_X rfl rfl ⟨Nat.le_of_ble_eq_true rfl, Nat.le_of_ble_eq_true rfl⟩ ⟨Nat.le_of_ble_eq_true rfl, Nat.le_of_ble_eq_true rfl⟩ rfl (Nat.le_of_ble_eq_true rfl) zd_L_empty_4 rfl [] (⟨0, 9, 12, 13⟩ : ExceptionTableEntry) [] rfl (fun z hz => nomatch hz) (by decide) (by decide) aw_603 (Or.inl rfl) (fun q => ?_)
  refine G_astore_n F zd_L_empty_12 rfl (by decide) (L' := [(3, .ref q), (0, .ref xa), (1, .int i1), (2, .ref oa)]) rfl ?_
  refine G_iconst (v := (1 : Int32)) F zd_L_empty_13 (by decide) ?_
  exact E 14 _ zd_L_empty_14

def zf_L_pack (qn : Int32) (qf : Nat → Int32) (sf : Nat → Int32) (pn : Int32) (pf : Nat → Int32) (tf : Nat → Int32) (i1 : Int32) (ox : Nat → Int64) : Option (Int32 × Int32 × (Nat → Int32) × Int32 × Int32 × Int32 × (Nat → Int32) × (Nat → Int64)) := bc7 (zf_X_pack qn qf sf pn pf tf i1) fun v1 v2 v3 v4 v5 v6 v7 => gd (¬ ((0 : Int32) < 0 ∨ 1 ≤ Int32.toNatClampNeg (0 : Int32))) <| bnd (vp_updL ox (Int32.toNatClampNeg (0 : Int32)) (v1.toInt64)) fun v8 => some ((0 : Int32), v2, v3, v4, v5, v6, v7, v8)
set_option maxHeartbeats 4000000 in
set_option maxRecDepth 100000 in
theorem zk_L_pack (l : Launch) (D : va_G) (cB cI cJ : ClassId) (xa : Nat) (qa : Nat) (qb : Nat) (sa : Nat) (sb : Nat) (pa : Nat) (pb : Nat) (da : Nat) (db : Nat) (ka : Nat) (ha : Nat) (ta : Nat) (wa : Nat) (va : Nat) (hb : Nat) (hc : Nat) (ea : Nat) (ua : Nat) (oa : Nat) (qn : Int32) (qf : Nat → Int32) (sn : Int32) (sf : Nat → Int32) (pn : Int32) (pf : Nat → Int32) (dn : Int32) (df : Nat → Int32) (tf : Nat → Int32) (an : Int32) (mt : Int32) (co : Int32) (ra : Int32) (rr : Int32) (zra : Int32) (zrr : Int32) (zrp : Int32) (i1 : Int32) (ox : Nat → Int64) (r : Int32) (sn' : Int32) (sf' : Nat → Int32) (an' : Int32) (mt' : Int32) (co' : Int32) (tf' : Nat → Int32) (ox' : Nat → Int64) (h : zf_L_pack qn qf sf pn pf tf i1 ox = some (r, sn', sf', an', mt', co', tf', ox')) : CoI l zy_L_pack zv_L_pack { frames := 7, cells := 0, slots := 0, locals := 161 } D cB cI cJ [.ref xa, .int i1, .ref oa] [(xa, .inr (7, [.ref qa, .ref sa, .ref pa, .ref da, .ref ka, .ref wa, .ref va, .ref ea, .ref ua])), (qa, .inr (4, [.ref qb, .int qn])), (qb, .inl (cB, 160, .inl qf)), (sa, .inr (4, [.ref sb, .int sn])), (sb, .inl (cB, 200, .inl sf)), (pa, .inr (4, [.ref pb, .int pn])), (pb, .inl (cB, 64, .inl pf)), (da, .inr (4, [.ref db, .int dn])), (db, .inl (cB, 160, .inl df)), (ha, .inr (2, [.ref pa, .ref qa])), (ka, .inr (3, [.ref pa, .ref qa, .ref ha, .ref ta, .int an, .int mt, .int co])), (ta, .inl (cI, 32, .inl tf)), (wa, .inr (6, [.ref qa, .ref sa])), (va, .inr (1, [.ref qa, .ref sa])), (hb, .inr (2, [.ref pa, .ref da])), (hc, .inr (2, [.ref pa, .ref da])), (ea, .inr (5, [.ref sa, .ref da, .ref hb, .int ra, .int rr])), (ua, .inr (0, [.ref sa, .ref da, .ref hc, .int zra, .int zrr, .int zrp])), (oa, .inl (cJ, 1, .inr (.inl ox)))] r [(xa, .inr (7, [.ref qa, .ref sa, .ref pa, .ref da, .ref ka, .ref wa, .ref va, .ref ea, .ref ua])), (qa, .inr (4, [.ref qb, .int qn])), (qb, .inl (cB, 160, .inl qf)), (sa, .inr (4, [.ref sb, .int sn'])), (sb, .inl (cB, 200, .inl sf')), (pa, .inr (4, [.ref pb, .int pn])), (pb, .inl (cB, 64, .inl pf)), (da, .inr (4, [.ref db, .int dn])), (db, .inl (cB, 160, .inl df)), (ha, .inr (2, [.ref pa, .ref qa])), (ka, .inr (3, [.ref pa, .ref qa, .ref ha, .ref ta, .int an', .int mt', .int co'])), (ta, .inl (cI, 32, .inl tf')), (wa, .inr (6, [.ref qa, .ref sa])), (va, .inr (1, [.ref qa, .ref sa])), (hb, .inr (2, [.ref pa, .ref da])), (hc, .inr (2, [.ref pa, .ref da])), (ea, .inr (5, [.ref sa, .ref da, .ref hb, .int ra, .int rr])), (ua, .inr (0, [.ref sa, .ref da, .ref hc, .int zra, .int zrr, .int zrp])), (oa, .inl (cJ, 1, .inr (.inl ox')))] := by
  unfold zf_L_pack at h
  refine CoI.ofGW (hh := zh_L_pack) (cc := zc_L_pack) (maxL := 4) (own := RL) (by decide) rfl rfl rfl trivial (Nat.le_of_ble_eq_true rfl) (L0 := [(0, .ref xa), (1, .int i1), (2, .ref oa)]) rfl (fun k F E => ?_)
  refine G_aload_n F zd_L_pack_0 rfl (j := 2) rfl ?_
  refine G_iconst (v := (0 : Int32)) F zd_L_pack_1 (by decide) ?_
  refine G_aload_n F zd_L_pack_2 rfl (j := 0) rfl ?_
  refine G_iload_n F zd_L_pack_3 rfl (j := 1) rfl ?_
  obtain ⟨v1, v2, v3, v4, v5, v6, v7, hc4, h⟩ := bc7_s h
  refine G_calliV F (zk_X_pack l D cB cI cJ xa qa qb sa sb pa pb da db ka ha ta wa va hb hc ea ua qn qf sn sf pn pf dn df tf an mt co ra rr zra zrr zrp i1 v1 v2 v3 v4 v5 v6 v7 hc4) (rest := [.int (0 : Int32), .ref oa]) [0, 1, 2, 3, 4, 5, 6, 7, 8, 9, 10, 11, 12, 13, 14, 15, 16, 17] rfl rfl rfl (ws' := [(xa, .inr (7, [.ref qa, .ref sa, .ref pa, .ref da, .ref ka, .ref wa, .ref va, .ref ea, .ref ua])), (qa, .inr (4, [.ref qb, .int qn])), (qb, .inl (cB, 160, .inl qf)), (sa, .inr (4, [.ref sb, .int v2])), (sb, .inl (cB, 200, .inl v3)), (pa, .inr (4, [.ref pb, .int pn])), (pb, .inl (cB, 64, .inl pf)), (da, .inr (4, [.ref db, .int dn])), (db, .inl (cB, 160, .inl df)), (ha, .inr (2, [.ref pa, .ref qa])), (ka, .inr (3, [.ref pa, .ref qa, .ref ha, .ref ta, .int v4, .int v5, .int v6])), (ta, .inl (cI, 32, .inl v7)), (wa, .inr (6, [.ref qa, .ref sa])), (va, .inr (1, [.ref qa, .ref sa])), (hb, .inr (2, [.ref pa, .ref da])), (hc, .inr (2, [.ref pa, .ref da])), (ea, .inr (5, [.ref sa, .ref da, .ref hb, .int ra, .int rr])), (ua, .inr (0, [.ref sa, .ref da, .ref hc, .int zra, .int zrr, .int zrp])), (oa, .inl (cJ, 1, .inr (.inl ox)))]) (by simp only [setsW, List.set]) (q0 := 0) rfl cv_L_21_X rfl rfl ⟨Nat.le_of_ble_eq_true rfl, Nat.le_of_ble_eq_true rfl⟩ hf0 rfl (Nat.le_of_ble_eq_true rfl) zd_L_pack_4 rfl ?_
  refine G_i2l F zd_L_pack_7 ?_
  obtain ⟨h0, h⟩ := gd_s h
  obtain ⟨v8, ev8, h⟩ := bnd_s h
  refine G_lastore F zd_L_pack_8 (q := 18) rfl h0 ev8 (ws' := [(xa, .inr (7, [.ref qa, .ref sa, .ref pa, .ref da, .ref ka, .ref wa, .ref va, .ref ea, .ref ua])), (qa, .inr (4, [.ref qb, .int qn])), (qb, .inl (cB, 160, .inl qf)), (sa, .inr (4, [.ref sb, .int v2])), (sb, .inl (cB, 200, .inl v3)), (pa, .inr (4, [.ref pb, .int pn])), (pb, .inl (cB, 64, .inl pf)), (da, .inr (4, [.ref db, .int dn])), (db, .inl (cB, 160, .inl df)), (ha, .inr (2, [.ref pa, .ref qa])), (ka, .inr (3, [.ref pa, .ref qa, .ref ha, .ref ta, .int v4, .int v5, .int v6])), (ta, .inl (cI, 32, .inl v7)), (wa, .inr (6, [.ref qa, .ref sa])), (va, .inr (1, [.ref qa, .ref sa])), (hb, .inr (2, [.ref pa, .ref da])), (hc, .inr (2, [.ref pa, .ref da])), (ea, .inr (5, [.ref sa, .ref da, .ref hb, .int ra, .int rr])), (ua, .inr (0, [.ref sa, .ref da, .ref hc, .int zra, .int zrr, .int zrp])), (oa, .inl (cJ, 1, .inr (.inl v8)))]) rfl ?_
  refine G_goto F zd_L_pack_9 (tgt := 15) rfl ?_
  refine G_iconst (v := (0 : Int32)) F zd_L_pack_15 (by decide) ?_
  obtain ⟨q1, q2, q3, q4, q5, q6, q7, q8⟩ := inj8 h
  subst q1
  subst q2
  subst q3
  subst q4
  subst q5
  subst q6
  subst q7
  subst q8
  exact E 16 _ zd_L_pack_16

set_option maxHeartbeats 4000000 in
set_option maxRecDepth 100000 in
theorem zx_L_pack_IA (l : Launch) (hl : l.stackTraces = false) (D : va_G) (cB cI cJ : ClassId) (xa : Nat) (qa : Nat) (qb : Nat) (sa : Nat) (sb : Nat) (pa : Nat) (pb : Nat) (da : Nat) (db : Nat) (ka : Nat) (ha : Nat) (ta : Nat) (wa : Nat) (va : Nat) (hb : Nat) (hc : Nat) (ea : Nat) (ua : Nat) (oa : Nat) (qn : Int32) (qf : Nat → Int32) (sn : Int32) (sf : Nat → Int32) (pn : Int32) (pf : Nat → Int32) (dn : Int32) (df : Nat → Int32) (tf : Nat → Int32) (an : Int32) (mt : Int32) (co : Int32) (ra : Int32) (rr : Int32) (zra : Int32) (zrr : Int32) (zrp : Int32) (i1 : Int32) (ox : Nat → Int64) (h : zf_X_pack_IA i1 = some ()) : CoC l zy_L_pack zv_L_pack { frames := 8, cells := 1, slots := 6, locals := 131 } D cB cI cJ [.ref xa, .int i1, .ref oa] [(xa, .inr (7, [.ref qa, .ref sa, .ref pa, .ref da, .ref ka, .ref wa, .ref va, .ref ea, .ref ua])), (qa, .inr (4, [.ref qb, .int qn])), (qb, .inl (cB, 160, .inl qf)), (sa, .inr (4, [.ref sb, .int sn])), (sb, .inl (cB, 200, .inl sf)), (pa, .inr (4, [.ref pb, .int pn])), (pb, .inl (cB, 64, .inl pf)), (da, .inr (4, [.ref db, .int dn])), (db, .inl (cB, 160, .inl df)), (ha, .inr (2, [.ref pa, .ref qa])), (ka, .inr (3, [.ref pa, .ref qa, .ref ha, .ref ta, .int an, .int mt, .int co])), (ta, .inl (cI, 32, .inl tf)), (wa, .inr (6, [.ref qa, .ref sa])), (va, .inr (1, [.ref qa, .ref sa])), (hb, .inr (2, [.ref pa, .ref da])), (hc, .inr (2, [.ref pa, .ref da])), (ea, .inr (5, [.ref sa, .ref da, .ref hb, .int ra, .int rr])), (ua, .inr (0, [.ref sa, .ref da, .ref hc, .int zra, .int zrr, .int zrp])), (oa, .inl (cJ, 1, .inr (.inl ox)))] 1 := by
  refine CoC.ofG (hh := zh_L_pack) (cc := zc_L_pack) (maxL := 4) (own := RL) (by decide) rfl rfl (Nat.le_of_ble_eq_true rfl) (L0 := [(0, .ref xa), (1, .int i1), (2, .ref oa)]) rfl (fun k F X B E => ?_)
  refine G_aload_n F zd_L_pack_0 rfl (j := 2) rfl ?_
  refine G_iconst (v := (0 : Int32)) F zd_L_pack_1 (by decide) ?_
  refine G_aload_n F zd_L_pack_2 rfl (j := 0) rfl ?_
  refine G_iload_n F zd_L_pack_3 rfl (j := 1) rfl ?_
  refine G_cV F X B (zk_X_pack_IA l hl D cB cI cJ xa qa qb sa sb pa pb da db ka ha ta wa va hb hc ea ua qn qf sn sf pn pf dn df tf an mt co ra rr zra zrr zrp i1 h) (rest := [.int (0 : Int32), .ref oa]) [0, 1, 2, 3, 4, 5, 6, 7, 8, 9, 10, 11, 12, 13, 14, 15, 16, 17] rfl rfl (q0 := 0) rfl cv_L_21_X rfl rfl ⟨Nat.le_of_ble_eq_true rfl, Nat.le_of_ble_eq_true rfl⟩ ⟨Nat.le_of_ble_eq_true rfl, Nat.le_of_ble_eq_true rfl⟩ rfl (Nat.le_of_ble_eq_true rfl) zd_L_pack_4 rfl [] (⟨0, 9, 12, 13⟩ : ExceptionTableEntry) [] rfl (fun z hz => nomatch hz) (by decide) (by decide) aw_603 (Or.inl rfl) (fun q => ?_)
  refine G_astore_n F zd_L_pack_12 rfl (by decide) (L' := [(3, .ref q), (0, .ref xa), (1, .int i1), (2, .ref oa)]) rfl ?_
  refine G_iconst (v := (1 : Int32)) F zd_L_pack_13 (by decide) ?_
  exact E 14 _ zd_L_pack_14

def zf_L_unpack (qn : Int32) (qf : Nat → Int32) (sn : Int32) (sf : Nat → Int32) (pn : Int32) (pf : Nat → Int32) (df : Nat → Int32) (ra : Int32) (rr : Int32) (zra : Int32) (zrr : Int32) (zrp : Int32) (i1 : Int32) (ox : Nat → Int64) : Option (Int32 × Int32 × (Nat → Int32) × Int32 × (Nat → Int32) × Int32 × Int32 × Int32 × Int32 × Int32 × (Nat → Int64)) := bc10 (zf_X_unpack qn qf sn sf pn pf df ra rr zra zrr zrp i1) fun v1 v2 v3 v4 v5 v6 v7 v8 v9 v10 => gd (¬ ((0 : Int32) < 0 ∨ 1 ≤ Int32.toNatClampNeg (0 : Int32))) <| bnd (vp_updL ox (Int32.toNatClampNeg (0 : Int32)) (v1.toInt64)) fun v11 => some ((0 : Int32), v2, v3, v4, v5, v6, v7, v8, v9, v10, v11)
set_option maxHeartbeats 4000000 in
set_option maxRecDepth 100000 in
theorem zk_L_unpack (l : Launch) (D : va_G) (cB cI cJ : ClassId) (xa : Nat) (qa : Nat) (qb : Nat) (sa : Nat) (sb : Nat) (pa : Nat) (pb : Nat) (da : Nat) (db : Nat) (ka : Nat) (ha : Nat) (ta : Nat) (wa : Nat) (va : Nat) (hb : Nat) (hc : Nat) (ea : Nat) (ua : Nat) (oa : Nat) (qn : Int32) (qf : Nat → Int32) (sn : Int32) (sf : Nat → Int32) (pn : Int32) (pf : Nat → Int32) (dn : Int32) (df : Nat → Int32) (tf : Nat → Int32) (an : Int32) (mt : Int32) (co : Int32) (ra : Int32) (rr : Int32) (zra : Int32) (zrr : Int32) (zrp : Int32) (i1 : Int32) (ox : Nat → Int64) (r : Int32) (qn' : Int32) (qf' : Nat → Int32) (dn' : Int32) (df' : Nat → Int32) (ra' : Int32) (rr' : Int32) (zra' : Int32) (zrr' : Int32) (zrp' : Int32) (ox' : Nat → Int64) (h : zf_L_unpack qn qf sn sf pn pf df ra rr zra zrr zrp i1 ox = some (r, qn', qf', dn', df', ra', rr', zra', zrr', zrp', ox')) : CoI l zy_L_unpack zv_L_unpack { frames := 7, cells := 0, slots := 0, locals := 154 } D cB cI cJ [.ref xa, .int i1, .ref oa] [(xa, .inr (7, [.ref qa, .ref sa, .ref pa, .ref da, .ref ka, .ref wa, .ref va, .ref ea, .ref ua])), (qa, .inr (4, [.ref qb, .int qn])), (qb, .inl (cB, 160, .inl qf)), (sa, .inr (4, [.ref sb, .int sn])), (sb, .inl (cB, 200, .inl sf)), (pa, .inr (4, [.ref pb, .int pn])), (pb, .inl (cB, 64, .inl pf)), (da, .inr (4, [.ref db, .int dn])), (db, .inl (cB, 160, .inl df)), (ha, .inr (2, [.ref pa, .ref qa])), (ka, .inr (3, [.ref pa, .ref qa, .ref ha, .ref ta, .int an, .int mt, .int co])), (ta, .inl (cI, 32, .inl tf)), (wa, .inr (6, [.ref qa, .ref sa])), (va, .inr (1, [.ref qa, .ref sa])), (hb, .inr (2, [.ref pa, .ref da])), (hc, .inr (2, [.ref pa, .ref da])), (ea, .inr (5, [.ref sa, .ref da, .ref hb, .int ra, .int rr])), (ua, .inr (0, [.ref sa, .ref da, .ref hc, .int zra, .int zrr, .int zrp])), (oa, .inl (cJ, 1, .inr (.inl ox)))] r [(xa, .inr (7, [.ref qa, .ref sa, .ref pa, .ref da, .ref ka, .ref wa, .ref va, .ref ea, .ref ua])), (qa, .inr (4, [.ref qb, .int qn'])), (qb, .inl (cB, 160, .inl qf')), (sa, .inr (4, [.ref sb, .int sn])), (sb, .inl (cB, 200, .inl sf)), (pa, .inr (4, [.ref pb, .int pn])), (pb, .inl (cB, 64, .inl pf)), (da, .inr (4, [.ref db, .int dn'])), (db, .inl (cB, 160, .inl df')), (ha, .inr (2, [.ref pa, .ref qa])), (ka, .inr (3, [.ref pa, .ref qa, .ref ha, .ref ta, .int an, .int mt, .int co])), (ta, .inl (cI, 32, .inl tf)), (wa, .inr (6, [.ref qa, .ref sa])), (va, .inr (1, [.ref qa, .ref sa])), (hb, .inr (2, [.ref pa, .ref da])), (hc, .inr (2, [.ref pa, .ref da])), (ea, .inr (5, [.ref sa, .ref da, .ref hb, .int ra', .int rr'])), (ua, .inr (0, [.ref sa, .ref da, .ref hc, .int zra', .int zrr', .int zrp'])), (oa, .inl (cJ, 1, .inr (.inl ox')))] := by
  unfold zf_L_unpack at h
  refine CoI.ofGW (hh := zh_L_unpack) (cc := zc_L_unpack) (maxL := 4) (own := RL) (by decide) rfl rfl rfl trivial (Nat.le_of_ble_eq_true rfl) (L0 := [(0, .ref xa), (1, .int i1), (2, .ref oa)]) rfl (fun k F E => ?_)
  refine G_aload_n F zd_L_unpack_0 rfl (j := 2) rfl ?_
  refine G_iconst (v := (0 : Int32)) F zd_L_unpack_1 (by decide) ?_
  refine G_aload_n F zd_L_unpack_2 rfl (j := 0) rfl ?_
  refine G_iload_n F zd_L_unpack_3 rfl (j := 1) rfl ?_
  obtain ⟨v1, v2, v3, v4, v5, v6, v7, v8, v9, v10, hc4, h⟩ := bc10_s h
  refine G_calliV F (zk_X_unpack l D cB cI cJ xa qa qb sa sb pa pb da db ka ha ta wa va hb hc ea ua qn qf sn sf pn pf dn df tf an mt co ra rr zra zrr zrp i1 v1 v2 v3 v4 v5 v6 v7 v8 v9 v10 hc4) (rest := [.int (0 : Int32), .ref oa]) [0, 1, 2, 3, 4, 5, 6, 7, 8, 9, 10, 11, 12, 13, 14, 15, 16, 17] rfl rfl rfl (ws' := [(xa, .inr (7, [.ref qa, .ref sa, .ref pa, .ref da, .ref ka, .ref wa, .ref va, .ref ea, .ref ua])), (qa, .inr (4, [.ref qb, .int v2])), (qb, .inl (cB, 160, .inl v3)), (sa, .inr (4, [.ref sb, .int sn])), (sb, .inl (cB, 200, .inl sf)), (pa, .inr (4, [.ref pb, .int pn])), (pb, .inl (cB, 64, .inl pf)), (da, .inr (4, [.ref db, .int v4])), (db, .inl (cB, 160, .inl v5)), (ha, .inr (2, [.ref pa, .ref qa])), (ka, .inr (3, [.ref pa, .ref qa, .ref ha, .ref ta, .int an, .int mt, .int co])), (ta, .inl (cI, 32, .inl tf)), (wa, .inr (6, [.ref qa, .ref sa])), (va, .inr (1, [.ref qa, .ref sa])), (hb, .inr (2, [.ref pa, .ref da])), (hc, .inr (2, [.ref pa, .ref da])), (ea, .inr (5, [.ref sa, .ref da, .ref hb, .int v6, .int v7])), (ua, .inr (0, [.ref sa, .ref da, .ref hc, .int v8, .int v9, .int v10])), (oa, .inl (cJ, 1, .inr (.inl ox)))]) (by simp only [setsW, List.set]) (q0 := 0) rfl cv_L_24_X rfl rfl ⟨Nat.le_of_ble_eq_true rfl, Nat.le_of_ble_eq_true rfl⟩ hf0 rfl (Nat.le_of_ble_eq_true rfl) zd_L_unpack_4 rfl ?_
  refine G_i2l F zd_L_unpack_7 ?_
  obtain ⟨h0, h⟩ := gd_s h
  obtain ⟨v11, ev11, h⟩ := bnd_s h
  refine G_lastore F zd_L_unpack_8 (q := 18) rfl h0 ev11 (ws' := [(xa, .inr (7, [.ref qa, .ref sa, .ref pa, .ref da, .ref ka, .ref wa, .ref va, .ref ea, .ref ua])), (qa, .inr (4, [.ref qb, .int v2])), (qb, .inl (cB, 160, .inl v3)), (sa, .inr (4, [.ref sb, .int sn])), (sb, .inl (cB, 200, .inl sf)), (pa, .inr (4, [.ref pb, .int pn])), (pb, .inl (cB, 64, .inl pf)), (da, .inr (4, [.ref db, .int v4])), (db, .inl (cB, 160, .inl v5)), (ha, .inr (2, [.ref pa, .ref qa])), (ka, .inr (3, [.ref pa, .ref qa, .ref ha, .ref ta, .int an, .int mt, .int co])), (ta, .inl (cI, 32, .inl tf)), (wa, .inr (6, [.ref qa, .ref sa])), (va, .inr (1, [.ref qa, .ref sa])), (hb, .inr (2, [.ref pa, .ref da])), (hc, .inr (2, [.ref pa, .ref da])), (ea, .inr (5, [.ref sa, .ref da, .ref hb, .int v6, .int v7])), (ua, .inr (0, [.ref sa, .ref da, .ref hc, .int v8, .int v9, .int v10])), (oa, .inl (cJ, 1, .inr (.inl v11)))]) rfl ?_
  refine G_goto F zd_L_unpack_9 (tgt := 15) rfl ?_
  refine G_iconst (v := (0 : Int32)) F zd_L_unpack_15 (by decide) ?_
  obtain ⟨q1, q2, q3, q4, q5, q6, q7, q8, q9, q10, q11⟩ := inj11 h
  subst q1
  subst q2
  subst q3
  subst q4
  subst q5
  subst q6
  subst q7
  subst q8
  subst q9
  subst q10
  subst q11
  exact E 16 _ zd_L_unpack_16

set_option maxHeartbeats 4000000 in
set_option maxRecDepth 100000 in
theorem zx_L_unpack_IA (l : Launch) (hl : l.stackTraces = false) (D : va_G) (cB cI cJ : ClassId) (xa : Nat) (qa : Nat) (qb : Nat) (sa : Nat) (sb : Nat) (pa : Nat) (pb : Nat) (da : Nat) (db : Nat) (ka : Nat) (ha : Nat) (ta : Nat) (wa : Nat) (va : Nat) (hb : Nat) (hc : Nat) (ea : Nat) (ua : Nat) (oa : Nat) (qn : Int32) (qf : Nat → Int32) (sn : Int32) (sf : Nat → Int32) (pn : Int32) (pf : Nat → Int32) (dn : Int32) (df : Nat → Int32) (tf : Nat → Int32) (an : Int32) (mt : Int32) (co : Int32) (ra : Int32) (rr : Int32) (zra : Int32) (zrr : Int32) (zrp : Int32) (i1 : Int32) (ox : Nat → Int64) (h : zf_X_unpack_IA i1 = some ()) : CoC l zy_L_unpack zv_L_unpack { frames := 8, cells := 1, slots := 6, locals := 132 } D cB cI cJ [.ref xa, .int i1, .ref oa] [(xa, .inr (7, [.ref qa, .ref sa, .ref pa, .ref da, .ref ka, .ref wa, .ref va, .ref ea, .ref ua])), (qa, .inr (4, [.ref qb, .int qn])), (qb, .inl (cB, 160, .inl qf)), (sa, .inr (4, [.ref sb, .int sn])), (sb, .inl (cB, 200, .inl sf)), (pa, .inr (4, [.ref pb, .int pn])), (pb, .inl (cB, 64, .inl pf)), (da, .inr (4, [.ref db, .int dn])), (db, .inl (cB, 160, .inl df)), (ha, .inr (2, [.ref pa, .ref qa])), (ka, .inr (3, [.ref pa, .ref qa, .ref ha, .ref ta, .int an, .int mt, .int co])), (ta, .inl (cI, 32, .inl tf)), (wa, .inr (6, [.ref qa, .ref sa])), (va, .inr (1, [.ref qa, .ref sa])), (hb, .inr (2, [.ref pa, .ref da])), (hc, .inr (2, [.ref pa, .ref da])), (ea, .inr (5, [.ref sa, .ref da, .ref hb, .int ra, .int rr])), (ua, .inr (0, [.ref sa, .ref da, .ref hc, .int zra, .int zrr, .int zrp])), (oa, .inl (cJ, 1, .inr (.inl ox)))] 1 := by
  refine CoC.ofG (hh := zh_L_unpack) (cc := zc_L_unpack) (maxL := 4) (own := RL) (by decide) rfl rfl (Nat.le_of_ble_eq_true rfl) (L0 := [(0, .ref xa), (1, .int i1), (2, .ref oa)]) rfl (fun k F X B E => ?_)
  refine G_aload_n F zd_L_unpack_0 rfl (j := 2) rfl ?_
  refine G_iconst (v := (0 : Int32)) F zd_L_unpack_1 (by decide) ?_
  refine G_aload_n F zd_L_unpack_2 rfl (j := 0) rfl ?_
  refine G_iload_n F zd_L_unpack_3 rfl (j := 1) rfl ?_
  refine G_cV F X B (zk_X_unpack_IA l hl D cB cI cJ xa qa qb sa sb pa pb da db ka ha ta wa va hb hc ea ua qn qf sn sf pn pf dn df tf an mt co ra rr zra zrr zrp i1 h) (rest := [.int (0 : Int32), .ref oa]) [0, 1, 2, 3, 4, 5, 6, 7, 8, 9, 10, 11, 12, 13, 14, 15, 16, 17] rfl rfl (q0 := 0) rfl cv_L_24_X rfl rfl ⟨Nat.le_of_ble_eq_true rfl, Nat.le_of_ble_eq_true rfl⟩ ⟨Nat.le_of_ble_eq_true rfl, Nat.le_of_ble_eq_true rfl⟩ rfl (Nat.le_of_ble_eq_true rfl) zd_L_unpack_4 rfl [] (⟨0, 9, 12, 13⟩ : ExceptionTableEntry) [] rfl (fun z hz => nomatch hz) (by decide) (by decide) aw_603 (Or.inl rfl) (fun q => ?_)
  refine G_astore_n F zd_L_unpack_12 rfl (by decide) (L' := [(3, .ref q), (0, .ref xa), (1, .int i1), (2, .ref oa)]) rfl ?_
  refine G_iconst (v := (1 : Int32)) F zd_L_unpack_13 (by decide) ?_
  exact E 14 _ zd_L_unpack_14

def zf_L_size (qn : Int32) (sn : Int32) (pn : Int32) (i1 : Int32) (ox : Nat → Int64) : Option (Int32 × (Nat → Int64)) := bc1 (zf_X_size qn sn pn i1) fun v1 => gd (¬ ((0 : Int32) < 0 ∨ 1 ≤ Int32.toNatClampNeg (0 : Int32))) <| bnd (vp_updL ox (Int32.toNatClampNeg (0 : Int32)) (v1.toInt64)) fun v2 => some ((0 : Int32), v2)
set_option maxHeartbeats 4000000 in
set_option maxRecDepth 100000 in
theorem zk_L_size (l : Launch) (D : va_G) (cB cI cJ : ClassId) (xa : Nat) (qa : Nat) (qb : Nat) (sa : Nat) (sb : Nat) (pa : Nat) (pb : Nat) (da : Nat) (db : Nat) (ka : Nat) (ha : Nat) (ta : Nat) (wa : Nat) (va : Nat) (hb : Nat) (hc : Nat) (ea : Nat) (ua : Nat) (oa : Nat) (qn : Int32) (qf : Nat → Int32) (sn : Int32) (sf : Nat → Int32) (pn : Int32) (pf : Nat → Int32) (dn : Int32) (df : Nat → Int32) (tf : Nat → Int32) (an : Int32) (mt : Int32) (co : Int32) (ra : Int32) (rr : Int32) (zra : Int32) (zrr : Int32) (zrp : Int32) (i1 : Int32) (ox : Nat → Int64) (r : Int32) (ox' : Nat → Int64) (h : zf_L_size qn sn pn i1 ox = some (r, ox')) : CoI l zy_L_size zv_L_size { frames := 2, cells := 0, slots := 0, locals := 42 } D cB cI cJ [.ref xa, .int i1, .ref oa] [(xa, .inr (7, [.ref qa, .ref sa, .ref pa, .ref da, .ref ka, .ref wa, .ref va, .ref ea, .ref ua])), (qa, .inr (4, [.ref qb, .int qn])), (qb, .inl (cB, 160, .inl qf)), (sa, .inr (4, [.ref sb, .int sn])), (sb, .inl (cB, 200, .inl sf)), (pa, .inr (4, [.ref pb, .int pn])), (pb, .inl (cB, 64, .inl pf)), (da, .inr (4, [.ref db, .int dn])), (db, .inl (cB, 160, .inl df)), (ha, .inr (2, [.ref pa, .ref qa])), (ka, .inr (3, [.ref pa, .ref qa, .ref ha, .ref ta, .int an, .int mt, .int co])), (ta, .inl (cI, 32, .inl tf)), (wa, .inr (6, [.ref qa, .ref sa])), (va, .inr (1, [.ref qa, .ref sa])), (hb, .inr (2, [.ref pa, .ref da])), (hc, .inr (2, [.ref pa, .ref da])), (ea, .inr (5, [.ref sa, .ref da, .ref hb, .int ra, .int rr])), (ua, .inr (0, [.ref sa, .ref da, .ref hc, .int zra, .int zrr, .int zrp])), (oa, .inl (cJ, 1, .inr (.inl ox)))] r [(xa, .inr (7, [.ref qa, .ref sa, .ref pa, .ref da, .ref ka, .ref wa, .ref va, .ref ea, .ref ua])), (qa, .inr (4, [.ref qb, .int qn])), (qb, .inl (cB, 160, .inl qf)), (sa, .inr (4, [.ref sb, .int sn])), (sb, .inl (cB, 200, .inl sf)), (pa, .inr (4, [.ref pb, .int pn])), (pb, .inl (cB, 64, .inl pf)), (da, .inr (4, [.ref db, .int dn])), (db, .inl (cB, 160, .inl df)), (ha, .inr (2, [.ref pa, .ref qa])), (ka, .inr (3, [.ref pa, .ref qa, .ref ha, .ref ta, .int an, .int mt, .int co])), (ta, .inl (cI, 32, .inl tf)), (wa, .inr (6, [.ref qa, .ref sa])), (va, .inr (1, [.ref qa, .ref sa])), (hb, .inr (2, [.ref pa, .ref da])), (hc, .inr (2, [.ref pa, .ref da])), (ea, .inr (5, [.ref sa, .ref da, .ref hb, .int ra, .int rr])), (ua, .inr (0, [.ref sa, .ref da, .ref hc, .int zra, .int zrr, .int zrp])), (oa, .inl (cJ, 1, .inr (.inl ox')))] := by
  unfold zf_L_size at h
  refine CoI.ofGW (hh := zh_L_size) (cc := zc_L_size) (maxL := 4) (own := RL) (by decide) rfl rfl rfl trivial (Nat.le_of_ble_eq_true rfl) (L0 := [(0, .ref xa), (1, .int i1), (2, .ref oa)]) rfl (fun k F E => ?_)
  refine G_aload_n F zd_L_size_0 rfl (j := 2) rfl ?_
  refine G_iconst (v := (0 : Int32)) F zd_L_size_1 (by decide) ?_
  refine G_aload_n F zd_L_size_2 rfl (j := 0) rfl ?_
  refine G_iload_n F zd_L_size_3 rfl (j := 1) rfl ?_
  obtain ⟨v1, hc4, h⟩ := bc1_s h
  refine G_calliV0 F (zk_X_size l D cB cI cJ xa qa qb sa sb pa pb da db ka ha ta wa va hb hc ea ua qn qf sn sf pn pf dn df tf an mt co ra rr zra zrr zrp i1 v1 hc4) (rest := [.int (0 : Int32), .ref oa]) [0, 1, 2, 3, 4, 5, 6, 7, 8, 9, 10, 11, 12, 13, 14, 15, 16, 17] rfl rfl (q0 := 0) rfl cv_L_27_X rfl rfl ⟨Nat.le_of_ble_eq_true rfl, Nat.le_of_ble_eq_true rfl⟩ hf0 rfl (Nat.le_of_ble_eq_true rfl) zd_L_size_4 rfl ?_
  refine G_i2l F zd_L_size_7 ?_
  obtain ⟨h0, h⟩ := gd_s h
  obtain ⟨v2, ev2, h⟩ := bnd_s h
  refine G_lastore F zd_L_size_8 (q := 18) rfl h0 ev2 (ws' := [(xa, .inr (7, [.ref qa, .ref sa, .ref pa, .ref da, .ref ka, .ref wa, .ref va, .ref ea, .ref ua])), (qa, .inr (4, [.ref qb, .int qn])), (qb, .inl (cB, 160, .inl qf)), (sa, .inr (4, [.ref sb, .int sn])), (sb, .inl (cB, 200, .inl sf)), (pa, .inr (4, [.ref pb, .int pn])), (pb, .inl (cB, 64, .inl pf)), (da, .inr (4, [.ref db, .int dn])), (db, .inl (cB, 160, .inl df)), (ha, .inr (2, [.ref pa, .ref qa])), (ka, .inr (3, [.ref pa, .ref qa, .ref ha, .ref ta, .int an, .int mt, .int co])), (ta, .inl (cI, 32, .inl tf)), (wa, .inr (6, [.ref qa, .ref sa])), (va, .inr (1, [.ref qa, .ref sa])), (hb, .inr (2, [.ref pa, .ref da])), (hc, .inr (2, [.ref pa, .ref da])), (ea, .inr (5, [.ref sa, .ref da, .ref hb, .int ra, .int rr])), (ua, .inr (0, [.ref sa, .ref da, .ref hc, .int zra, .int zrr, .int zrp])), (oa, .inl (cJ, 1, .inr (.inl v2)))]) rfl ?_
  refine G_goto F zd_L_size_9 (tgt := 15) rfl ?_
  refine G_iconst (v := (0 : Int32)) F zd_L_size_15 (by decide) ?_
  obtain ⟨q1, q2⟩ := inj2 h
  subst q1
  subst q2
  exact E 16 _ zd_L_size_16

set_option maxHeartbeats 4000000 in
set_option maxRecDepth 100000 in
theorem zx_L_size_IA (l : Launch) (hl : l.stackTraces = false) (D : va_G) (cB cI cJ : ClassId) (xa : Nat) (qa : Nat) (qb : Nat) (sa : Nat) (sb : Nat) (pa : Nat) (pb : Nat) (da : Nat) (db : Nat) (ka : Nat) (ha : Nat) (ta : Nat) (wa : Nat) (va : Nat) (hb : Nat) (hc : Nat) (ea : Nat) (ua : Nat) (oa : Nat) (qn : Int32) (qf : Nat → Int32) (sn : Int32) (sf : Nat → Int32) (pn : Int32) (pf : Nat → Int32) (dn : Int32) (df : Nat → Int32) (tf : Nat → Int32) (an : Int32) (mt : Int32) (co : Int32) (ra : Int32) (rr : Int32) (zra : Int32) (zrr : Int32) (zrp : Int32) (i1 : Int32) (ox : Nat → Int64) (h : zf_X_size_IA i1 = some ()) : CoC l zy_L_size zv_L_size { frames := 8, cells := 1, slots := 6, locals := 132 } D cB cI cJ [.ref xa, .int i1, .ref oa] [(xa, .inr (7, [.ref qa, .ref sa, .ref pa, .ref da, .ref ka, .ref wa, .ref va, .ref ea, .ref ua])), (qa, .inr (4, [.ref qb, .int qn])), (qb, .inl (cB, 160, .inl qf)), (sa, .inr (4, [.ref sb, .int sn])), (sb, .inl (cB, 200, .inl sf)), (pa, .inr (4, [.ref pb, .int pn])), (pb, .inl (cB, 64, .inl pf)), (da, .inr (4, [.ref db, .int dn])), (db, .inl (cB, 160, .inl df)), (ha, .inr (2, [.ref pa, .ref qa])), (ka, .inr (3, [.ref pa, .ref qa, .ref ha, .ref ta, .int an, .int mt, .int co])), (ta, .inl (cI, 32, .inl tf)), (wa, .inr (6, [.ref qa, .ref sa])), (va, .inr (1, [.ref qa, .ref sa])), (hb, .inr (2, [.ref pa, .ref da])), (hc, .inr (2, [.ref pa, .ref da])), (ea, .inr (5, [.ref sa, .ref da, .ref hb, .int ra, .int rr])), (ua, .inr (0, [.ref sa, .ref da, .ref hc, .int zra, .int zrr, .int zrp])), (oa, .inl (cJ, 1, .inr (.inl ox)))] 1 := by
  refine CoC.ofG (hh := zh_L_size) (cc := zc_L_size) (maxL := 4) (own := RL) (by decide) rfl rfl (Nat.le_of_ble_eq_true rfl) (L0 := [(0, .ref xa), (1, .int i1), (2, .ref oa)]) rfl (fun k F X B E => ?_)
  refine G_aload_n F zd_L_size_0 rfl (j := 2) rfl ?_
  refine G_iconst (v := (0 : Int32)) F zd_L_size_1 (by decide) ?_
  refine G_aload_n F zd_L_size_2 rfl (j := 0) rfl ?_
  refine G_iload_n F zd_L_size_3 rfl (j := 1) rfl ?_
  refine G_cV F X B (zk_X_size_IA l hl D cB cI cJ xa qa qb sa sb pa pb da db ka ha ta wa va hb hc ea ua qn qf sn sf pn pf dn df tf an mt co ra rr zra zrr zrp i1 h) (rest := [.int (0 : Int32), .ref oa]) [0, 1, 2, 3, 4, 5, 6, 7, 8, 9, 10, 11, 12, 13, 14, 15, 16, 17] rfl rfl (q0 := 0) rfl cv_L_27_X rfl rfl ⟨Nat.le_of_ble_eq_true rfl, Nat.le_of_ble_eq_true rfl⟩ ⟨Nat.le_of_ble_eq_true rfl, Nat.le_of_ble_eq_true rfl⟩ rfl (Nat.le_of_ble_eq_true rfl) zd_L_size_4 rfl [] (⟨0, 9, 12, 13⟩ : ExceptionTableEntry) [] rfl (fun z hz => nomatch hz) (by decide) (by decide) aw_603 (Or.inl rfl) (fun q => ?_)
  refine G_astore_n F zd_L_size_12 rfl (by decide) (L' := [(3, .ref q), (0, .ref xa), (1, .int i1), (2, .ref oa)]) rfl ?_
  refine G_iconst (v := (1 : Int32)) F zd_L_size_13 (by decide) ?_
  exact E 14 _ zd_L_size_14

def zf_L_get (qn : Int32) (qf : Nat → Int32) (sn : Int32) (sf : Nat → Int32) (pn : Int32) (pf : Nat → Int32) (i1 : Int32) (i2 : Int32) (ox : Nat → Int64) : Option (Int32 × (Nat → Int64)) := bc1 (zf_X_get qn qf sn sf pn pf i1 i2) fun v1 => gd (¬ ((0 : Int32) < 0 ∨ 1 ≤ Int32.toNatClampNeg (0 : Int32))) <| bnd (vp_updL ox (Int32.toNatClampNeg (0 : Int32)) (v1.toInt64)) fun v2 => some ((0 : Int32), v2)
set_option maxHeartbeats 4000000 in
set_option maxRecDepth 100000 in
theorem zk_L_get (l : Launch) (D : va_G) (cB cI cJ : ClassId) (xa : Nat) (qa : Nat) (qb : Nat) (sa : Nat) (sb : Nat) (pa : Nat) (pb : Nat) (da : Nat) (db : Nat) (ka : Nat) (ha : Nat) (ta : Nat) (wa : Nat) (va : Nat) (hb : Nat) (hc : Nat) (ea : Nat) (ua : Nat) (oa : Nat) (qn : Int32) (qf : Nat → Int32) (sn : Int32) (sf : Nat → Int32) (pn : Int32) (pf : Nat → Int32) (dn : Int32) (df : Nat → Int32) (tf : Nat → Int32) (an : Int32) (mt : Int32) (co : Int32) (ra : Int32) (rr : Int32) (zra : Int32) (zrr : Int32) (zrp : Int32) (i1 : Int32) (i2 : Int32) (ox : Nat → Int64) (r : Int32) (ox' : Nat → Int64) (h : zf_L_get qn qf sn sf pn pf i1 i2 ox = some (r, ox')) : CoI l zy_L_get zv_L_get { frames := 2, cells := 0, slots := 0, locals := 44 } D cB cI cJ [.ref xa, .int i1, .int i2, .ref oa] [(xa, .inr (7, [.ref qa, .ref sa, .ref pa, .ref da, .ref ka, .ref wa, .ref va, .ref ea, .ref ua])), (qa, .inr (4, [.ref qb, .int qn])), (qb, .inl (cB, 160, .inl qf)), (sa, .inr (4, [.ref sb, .int sn])), (sb, .inl (cB, 200, .inl sf)), (pa, .inr (4, [.ref pb, .int pn])), (pb, .inl (cB, 64, .inl pf)), (da, .inr (4, [.ref db, .int dn])), (db, .inl (cB, 160, .inl df)), (ha, .inr (2, [.ref pa, .ref qa])), (ka, .inr (3, [.ref pa, .ref qa, .ref ha, .ref ta, .int an, .int mt, .int co])), (ta, .inl (cI, 32, .inl tf)), (wa, .inr (6, [.ref qa, .ref sa])), (va, .inr (1, [.ref qa, .ref sa])), (hb, .inr (2, [.ref pa, .ref da])), (hc, .inr (2, [.ref pa, .ref da])), (ea, .inr (5, [.ref sa, .ref da, .ref hb, .int ra, .int rr])), (ua, .inr (0, [.ref sa, .ref da, .ref hc, .int zra, .int zrr, .int zrp])), (oa, .inl (cJ, 1, .inr (.inl ox)))] r [(xa, .inr (7, [.ref qa, .ref sa, .ref pa, .ref da, .ref ka, .ref wa, .ref va, .ref ea, .ref ua])), (qa, .inr (4, [.ref qb, .int qn])), (qb, .inl (cB, 160, .inl qf)), (sa, .inr (4, [.ref sb, .int sn])), (sb, .inl (cB, 200, .inl sf)), (pa, .inr (4, [.ref pb, .int pn])), (pb, .inl (cB, 64, .inl pf)), (da, .inr (4, [.ref db, .int dn])), (db, .inl (cB, 160, .inl df)), (ha, .inr (2, [.ref pa, .ref qa])), (ka, .inr (3, [.ref pa, .ref qa, .ref ha, .ref ta, .int an, .int mt, .int co])), (ta, .inl (cI, 32, .inl tf)), (wa, .inr (6, [.ref qa, .ref sa])), (va, .inr (1, [.ref qa, .ref sa])), (hb, .inr (2, [.ref pa, .ref da])), (hc, .inr (2, [.ref pa, .ref da])), (ea, .inr (5, [.ref sa, .ref da, .ref hb, .int ra, .int rr])), (ua, .inr (0, [.ref sa, .ref da, .ref hc, .int zra, .int zrr, .int zrp])), (oa, .inl (cJ, 1, .inr (.inl ox')))] := by
  unfold zf_L_get at h
  refine CoI.ofGW (hh := zh_L_get) (cc := zc_L_get) (maxL := 5) (own := RL) (by decide) rfl rfl rfl trivial (Nat.le_of_ble_eq_true rfl) (L0 := [(0, .ref xa), (1, .int i1), (2, .int i2), (3, .ref oa)]) rfl (fun k F E => ?_)
  refine G_aload_n F zd_L_get_0 rfl (j := 3) rfl ?_
  refine G_iconst (v := (0 : Int32)) F zd_L_get_1 (by decide) ?_
  refine G_aload_n F zd_L_get_2 rfl (j := 0) rfl ?_
  refine G_iload_n F zd_L_get_3 rfl (j := 1) rfl ?_
  refine G_iload_n F zd_L_get_4 rfl (j := 2) rfl ?_
  obtain ⟨v1, hc5, h⟩ := bc1_s h
  refine G_calliV0 F (zk_X_get l D cB cI cJ xa qa qb sa sb pa pb da db ka ha ta wa va hb hc ea ua qn qf sn sf pn pf dn df tf an mt co ra rr zra zrr zrp i1 i2 v1 hc5) (rest := [.int (0 : Int32), .ref oa]) [0, 1, 2, 3, 4, 5, 6, 7, 8, 9, 10, 11, 12, 13, 14, 15, 16, 17] rfl rfl (q0 := 0) rfl cv_L_30_X rfl rfl ⟨Nat.le_of_ble_eq_true rfl, Nat.le_of_ble_eq_true rfl⟩ hf0 rfl (Nat.le_of_ble_eq_true rfl) zd_L_get_5 rfl ?_
  refine G_i2l F zd_L_get_8 ?_
  obtain ⟨h0, h⟩ := gd_s h
  obtain ⟨v2, ev2, h⟩ := bnd_s h
  refine G_lastore F zd_L_get_9 (q := 18) rfl h0 ev2 (ws' := [(xa, .inr (7, [.ref qa, .ref sa, .ref pa, .ref da, .ref ka, .ref wa, .ref va, .ref ea, .ref ua])), (qa, .inr (4, [.ref qb, .int qn])), (qb, .inl (cB, 160, .inl qf)), (sa, .inr (4, [.ref sb, .int sn])), (sb, .inl (cB, 200, .inl sf)), (pa, .inr (4, [.ref pb, .int pn])), (pb, .inl (cB, 64, .inl pf)), (da, .inr (4, [.ref db, .int dn])), (db, .inl (cB, 160, .inl df)), (ha, .inr (2, [.ref pa, .ref qa])), (ka, .inr (3, [.ref pa, .ref qa, .ref ha, .ref ta, .int an, .int mt, .int co])), (ta, .inl (cI, 32, .inl tf)), (wa, .inr (6, [.ref qa, .ref sa])), (va, .inr (1, [.ref qa, .ref sa])), (hb, .inr (2, [.ref pa, .ref da])), (hc, .inr (2, [.ref pa, .ref da])), (ea, .inr (5, [.ref sa, .ref da, .ref hb, .int ra, .int rr])), (ua, .inr (0, [.ref sa, .ref da, .ref hc, .int zra, .int zrr, .int zrp])), (oa, .inl (cJ, 1, .inr (.inl v2)))]) rfl ?_
  refine G_goto F zd_L_get_10 (tgt := 21) rfl ?_
  refine G_iconst (v := (0 : Int32)) F zd_L_get_21 (by decide) ?_
  obtain ⟨q1, q2⟩ := inj2 h
  subst q1
  subst q2
  exact E 22 _ zd_L_get_22

set_option maxHeartbeats 4000000 in
set_option maxRecDepth 100000 in
theorem zx_L_get_IA (l : Launch) (hl : l.stackTraces = false) (D : va_G) (cB cI cJ : ClassId) (xa : Nat) (qa : Nat) (qb : Nat) (sa : Nat) (sb : Nat) (pa : Nat) (pb : Nat) (da : Nat) (db : Nat) (ka : Nat) (ha : Nat) (ta : Nat) (wa : Nat) (va : Nat) (hb : Nat) (hc : Nat) (ea : Nat) (ua : Nat) (oa : Nat) (qn : Int32) (qf : Nat → Int32) (sn : Int32) (sf : Nat → Int32) (pn : Int32) (pf : Nat → Int32) (dn : Int32) (df : Nat → Int32) (tf : Nat → Int32) (an : Int32) (mt : Int32) (co : Int32) (ra : Int32) (rr : Int32) (zra : Int32) (zrr : Int32) (zrp : Int32) (i1 : Int32) (i2 : Int32) (ox : Nat → Int64) (h : zf_X_get_IA qn sn pn i1 i2 = some ()) : CoC l zy_L_get zv_L_get { frames := 8, cells := 1, slots := 6, locals := 134 } D cB cI cJ [.ref xa, .int i1, .int i2, .ref oa] [(xa, .inr (7, [.ref qa, .ref sa, .ref pa, .ref da, .ref ka, .ref wa, .ref va, .ref ea, .ref ua])), (qa, .inr (4, [.ref qb, .int qn])), (qb, .inl (cB, 160, .inl qf)), (sa, .inr (4, [.ref sb, .int sn])), (sb, .inl (cB, 200, .inl sf)), (pa, .inr (4, [.ref pb, .int pn])), (pb, .inl (cB, 64, .inl pf)), (da, .inr (4, [.ref db, .int dn])), (db, .inl (cB, 160, .inl df)), (ha, .inr (2, [.ref pa, .ref qa])), (ka, .inr (3, [.ref pa, .ref qa, .ref ha, .ref ta, .int an, .int mt, .int co])), (ta, .inl (cI, 32, .inl tf)), (wa, .inr (6, [.ref qa, .ref sa])), (va, .inr (1, [.ref qa, .ref sa])), (hb, .inr (2, [.ref pa, .ref da])), (hc, .inr (2, [.ref pa, .ref da])), (ea, .inr (5, [.ref sa, .ref da, .ref hb, .int ra, .int rr])), (ua, .inr (0, [.ref sa, .ref da, .ref hc, .int zra, .int zrr, .int zrp])), (oa, .inl (cJ, 1, .inr (.inl ox)))] 1 := by
  refine CoC.ofG (hh := zh_L_get) (cc := zc_L_get) (maxL := 5) (own := RL) (by decide) rfl rfl (Nat.le_of_ble_eq_true rfl) (L0 := [(0, .ref xa), (1, .int i1), (2, .int i2), (3, .ref oa)]) rfl (fun k F X B E => ?_)
  refine G_aload_n F zd_L_get_0 rfl (j := 3) rfl ?_
  refine G_iconst (v := (0 : Int32)) F zd_L_get_1 (by decide) ?_
  refine G_aload_n F zd_L_get_2 rfl (j := 0) rfl ?_
  refine G_iload_n F zd_L_get_3 rfl (j := 1) rfl ?_
  refine G_iload_n F zd_L_get_4 rfl (j := 2) rfl ?_
  refine G_cV F X B (zk_X_get_IA l hl D cB cI cJ xa qa qb sa sb pa pb da db ka ha ta wa va hb hc ea ua qn qf sn sf pn pf dn df tf an mt co ra rr zra zrr zrp i1 i2 h) (rest := [.int (0 : Int32), .ref oa]) [0, 1, 2, 3, 4, 5, 6, 7, 8, 9, 10, 11, 12, 13, 14, 15, 16, 17] rfl rfl (q0 := 0) rfl cv_L_30_X rfl rfl ⟨Nat.le_of_ble_eq_true rfl, Nat.le_of_ble_eq_true rfl⟩ ⟨Nat.le_of_ble_eq_true rfl, Nat.le_of_ble_eq_true rfl⟩ rfl (Nat.le_of_ble_eq_true rfl) zd_L_get_5 rfl [] (⟨0, 10, 13, 13⟩ : ExceptionTableEntry) [(⟨0, 10, 17, 15⟩ : ExceptionTableEntry)] rfl (fun z hz => nomatch hz) (by decide) (by decide) aw_603 (Or.inl rfl) (fun q => ?_)
  refine G_astore F zd_L_get_13 (by decide) (L' := [(4, .ref q), (0, .ref xa), (1, .int i1), (2, .int i2), (3, .ref oa)]) rfl ?_
  refine G_iconst (v := (1 : Int32)) F zd_L_get_15 (by decide) ?_
  exact E 16 _ zd_L_get_16

set_option maxHeartbeats 4000000 in
set_option maxRecDepth 100000 in
theorem zx_L_get_IS (l : Launch) (hl : l.stackTraces = false) (D : va_G) (cB cI cJ : ClassId) (xa : Nat) (qa : Nat) (qb : Nat) (sa : Nat) (sb : Nat) (pa : Nat) (pb : Nat) (da : Nat) (db : Nat) (ka : Nat) (ha : Nat) (ta : Nat) (wa : Nat) (va : Nat) (hb : Nat) (hc : Nat) (ea : Nat) (ua : Nat) (oa : Nat) (qn : Int32) (qf : Nat → Int32) (sn : Int32) (sf : Nat → Int32) (pn : Int32) (pf : Nat → Int32) (dn : Int32) (df : Nat → Int32) (tf : Nat → Int32) (an : Int32) (mt : Int32) (co : Int32) (ra : Int32) (rr : Int32) (zra : Int32) (zrr : Int32) (zrp : Int32) (i1 : Int32) (i2 : Int32) (ox : Nat → Int64) (h : zf_X_get_IS qn sn pn i1 i2 = some ()) : CoC l zy_L_get zv_L_get { frames := 7, cells := 1, slots := 6, locals := 113 } D cB cI cJ [.ref xa, .int i1, .int i2, .ref oa] [(xa, .inr (7, [.ref qa, .ref sa, .ref pa, .ref da, .ref ka, .ref wa, .ref va, .ref ea, .ref ua])), (qa, .inr (4, [.ref qb, .int qn])), (qb, .inl (cB, 160, .inl qf)), (sa, .inr (4, [.ref sb, .int sn])), (sb, .inl (cB, 200, .inl sf)), (pa, .inr (4, [.ref pb, .int pn])), (pb, .inl (cB, 64, .inl pf)), (da, .inr (4, [.ref db, .int dn])), (db, .inl (cB, 160, .inl df)), (ha, .inr (2, [.ref pa, .ref qa])), (ka, .inr (3, [.ref pa, .ref qa, .ref ha, .ref ta, .int an, .int mt, .int co])), (ta, .inl (cI, 32, .inl tf)), (wa, .inr (6, [.ref qa, .ref sa])), (va, .inr (1, [.ref qa, .ref sa])), (hb, .inr (2, [.ref pa, .ref da])), (hc, .inr (2, [.ref pa, .ref da])), (ea, .inr (5, [.ref sa, .ref da, .ref hb, .int ra, .int rr])), (ua, .inr (0, [.ref sa, .ref da, .ref hc, .int zra, .int zrr, .int zrp])), (oa, .inl (cJ, 1, .inr (.inl ox)))] 2 := by
  refine CoC.ofG (hh := zh_L_get) (cc := zc_L_get) (maxL := 5) (own := RL) (by decide) rfl rfl (Nat.le_of_ble_eq_true rfl) (L0 := [(0, .ref xa), (1, .int i1), (2, .int i2), (3, .ref oa)]) rfl (fun k F X B E => ?_)
  refine G_aload_n F zd_L_get_0 rfl (j := 3) rfl ?_
  refine G_iconst (v := (0 : Int32)) F zd_L_get_1 (by decide) ?_
  refine G_aload_n F zd_L_get_2 rfl (j := 0) rfl ?_
  refine G_iload_n F zd_L_get_3 rfl (j := 1) rfl ?_
  refine G_iload_n F zd_L_get_4 rfl (j := 2) rfl ?_
  refine G_cV F X B (zk_X_get_IS l hl D cB cI cJ xa qa qb sa sb pa pb da db ka ha ta wa va hb hc ea ua qn qf sn sf pn pf dn df tf an mt co ra rr zra zrr zrp i1 i2 h) (rest := [.int (0 : Int32), .ref oa]) [0, 1, 2, 3, 4, 5, 6, 7, 8, 9, 10, 11, 12, 13, 14, 15, 16, 17] rfl rfl (q0 := 0) rfl cv_L_30_X rfl rfl ⟨Nat.le_of_ble_eq_true rfl, Nat.le_of_ble_eq_true rfl⟩ ⟨Nat.le_of_ble_eq_true rfl, Nat.le_of_ble_eq_true rfl⟩ rfl (Nat.le_of_ble_eq_true rfl) zd_L_get_5 rfl [(⟨0, 10, 13, 13⟩ : ExceptionTableEntry)] (⟨0, 10, 17, 15⟩ : ExceptionTableEntry) [] rfl (fun z hz => by rw [List.mem_singleton.mp hz]; exact ⟨by decide, aw_603, rfl⟩) (by decide) (by decide) aw_604 (Or.inr rfl) (fun q => ?_)
  refine G_astore F zd_L_get_17 (by decide) (L' := [(4, .ref q), (0, .ref xa), (1, .int i1), (2, .int i2), (3, .ref oa)]) rfl ?_
  refine G_iconst (v := (2 : Int32)) F zd_L_get_19 (by decide) ?_
  exact E 20 _ zd_L_get_20

def zf_L_found (mt : Int32) (co : Int32) (i1 : Int32) (ox : Nat → Int64) : Option (Int32 × (Nat → Int64)) := bc1 (zf_X_found mt co i1) fun v1 => gd (¬ ((0 : Int32) < 0 ∨ 1 ≤ Int32.toNatClampNeg (0 : Int32))) <| bnd (vp_updL ox (Int32.toNatClampNeg (0 : Int32)) (v1.toInt64)) fun v2 => some ((0 : Int32), v2)
set_option maxHeartbeats 4000000 in
set_option maxRecDepth 100000 in
theorem zk_L_found (l : Launch) (D : va_G) (cB cI cJ : ClassId) (xa : Nat) (qa : Nat) (qb : Nat) (sa : Nat) (sb : Nat) (pa : Nat) (pb : Nat) (da : Nat) (db : Nat) (ka : Nat) (ha : Nat) (ta : Nat) (wa : Nat) (va : Nat) (hb : Nat) (hc : Nat) (ea : Nat) (ua : Nat) (oa : Nat) (qn : Int32) (qf : Nat → Int32) (sn : Int32) (sf : Nat → Int32) (pn : Int32) (pf : Nat → Int32) (dn : Int32) (df : Nat → Int32) (tf : Nat → Int32) (an : Int32) (mt : Int32) (co : Int32) (ra : Int32) (rr : Int32) (zra : Int32) (zrr : Int32) (zrp : Int32) (i1 : Int32) (ox : Nat → Int64) (r : Int32) (ox' : Nat → Int64) (h : zf_L_found mt co i1 ox = some (r, ox')) : CoI l zy_L_found zv_L_found { frames := 1, cells := 0, slots := 0, locals := 21 } D cB cI cJ [.ref xa, .int i1, .ref oa] [(xa, .inr (7, [.ref qa, .ref sa, .ref pa, .ref da, .ref ka, .ref wa, .ref va, .ref ea, .ref ua])), (qa, .inr (4, [.ref qb, .int qn])), (qb, .inl (cB, 160, .inl qf)), (sa, .inr (4, [.ref sb, .int sn])), (sb, .inl (cB, 200, .inl sf)), (pa, .inr (4, [.ref pb, .int pn])), (pb, .inl (cB, 64, .inl pf)), (da, .inr (4, [.ref db, .int dn])), (db, .inl (cB, 160, .inl df)), (ha, .inr (2, [.ref pa, .ref qa])), (ka, .inr (3, [.ref pa, .ref qa, .ref ha, .ref ta, .int an, .int mt, .int co])), (ta, .inl (cI, 32, .inl tf)), (wa, .inr (6, [.ref qa, .ref sa])), (va, .inr (1, [.ref qa, .ref sa])), (hb, .inr (2, [.ref pa, .ref da])), (hc, .inr (2, [.ref pa, .ref da])), (ea, .inr (5, [.ref sa, .ref da, .ref hb, .int ra, .int rr])), (ua, .inr (0, [.ref sa, .ref da, .ref hc, .int zra, .int zrr, .int zrp])), (oa, .inl (cJ, 1, .inr (.inl ox)))] r [(xa, .inr (7, [.ref qa, .ref sa, .ref pa, .ref da, .ref ka, .ref wa, .ref va, .ref ea, .ref ua])), (qa, .inr (4, [.ref qb, .int qn])), (qb, .inl (cB, 160, .inl qf)), (sa, .inr (4, [.ref sb, .int sn])), (sb, .inl (cB, 200, .inl sf)), (pa, .inr (4, [.ref pb, .int pn])), (pb, .inl (cB, 64, .inl pf)), (da, .inr (4, [.ref db, .int dn])), (db, .inl (cB, 160, .inl df)), (ha, .inr (2, [.ref pa, .ref qa])), (ka, .inr (3, [.ref pa, .ref qa, .ref ha, .ref ta, .int an, .int mt, .int co])), (ta, .inl (cI, 32, .inl tf)), (wa, .inr (6, [.ref qa, .ref sa])), (va, .inr (1, [.ref qa, .ref sa])), (hb, .inr (2, [.ref pa, .ref da])), (hc, .inr (2, [.ref pa, .ref da])), (ea, .inr (5, [.ref sa, .ref da, .ref hb, .int ra, .int rr])), (ua, .inr (0, [.ref sa, .ref da, .ref hc, .int zra, .int zrr, .int zrp])), (oa, .inl (cJ, 1, .inr (.inl ox')))] := by
  unfold zf_L_found at h
  refine CoI.ofGW (hh := zh_L_found) (cc := zc_L_found) (maxL := 4) (own := RL) (by decide) rfl rfl rfl trivial (Nat.le_of_ble_eq_true rfl) (L0 := [(0, .ref xa), (1, .int i1), (2, .ref oa)]) rfl (fun k F E => ?_)
  refine G_aload_n F zd_L_found_0 rfl (j := 2) rfl ?_
  refine G_iconst (v := (0 : Int32)) F zd_L_found_1 (by decide) ?_
  refine G_aload_n F zd_L_found_2 rfl (j := 0) rfl ?_
  refine G_iload_n F zd_L_found_3 rfl (j := 1) rfl ?_
  obtain ⟨v1, hc4, h⟩ := bc1_s h
  refine G_calliV0 F (zk_X_found l D cB cI cJ xa qa qb sa sb pa pb da db ka ha ta wa va hb hc ea ua qn qf sn sf pn pf dn df tf an mt co ra rr zra zrr zrp i1 v1 hc4) (rest := [.int (0 : Int32), .ref oa]) [0, 1, 2, 3, 4, 5, 6, 7, 8, 9, 10, 11, 12, 13, 14, 15, 16, 17] rfl rfl (q0 := 0) rfl cv_L_34_X rfl rfl ⟨Nat.le_of_ble_eq_true rfl, Nat.le_of_ble_eq_true rfl⟩ hf0 rfl (Nat.le_of_ble_eq_true rfl) zd_L_found_4 rfl ?_
  refine G_i2l F zd_L_found_7 ?_
  obtain ⟨h0, h⟩ := gd_s h
  obtain ⟨v2, ev2, h⟩ := bnd_s h
  refine G_lastore F zd_L_found_8 (q := 18) rfl h0 ev2 (ws' := [(xa, .inr (7, [.ref qa, .ref sa, .ref pa, .ref da, .ref ka, .ref wa, .ref va, .ref ea, .ref ua])), (qa, .inr (4, [.ref qb, .int qn])), (qb, .inl (cB, 160, .inl qf)), (sa, .inr (4, [.ref sb, .int sn])), (sb, .inl (cB, 200, .inl sf)), (pa, .inr (4, [.ref pb, .int pn])), (pb, .inl (cB, 64, .inl pf)), (da, .inr (4, [.ref db, .int dn])), (db, .inl (cB, 160, .inl df)), (ha, .inr (2, [.ref pa, .ref qa])), (ka, .inr (3, [.ref pa, .ref qa, .ref ha, .ref ta, .int an, .int mt, .int co])), (ta, .inl (cI, 32, .inl tf)), (wa, .inr (6, [.ref qa, .ref sa])), (va, .inr (1, [.ref qa, .ref sa])), (hb, .inr (2, [.ref pa, .ref da])), (hc, .inr (2, [.ref pa, .ref da])), (ea, .inr (5, [.ref sa, .ref da, .ref hb, .int ra, .int rr])), (ua, .inr (0, [.ref sa, .ref da, .ref hc, .int zra, .int zrr, .int zrp])), (oa, .inl (cJ, 1, .inr (.inl v2)))]) rfl ?_
  refine G_goto F zd_L_found_9 (tgt := 15) rfl ?_
  refine G_iconst (v := (0 : Int32)) F zd_L_found_15 (by decide) ?_
  obtain ⟨q1, q2⟩ := inj2 h
  subst q1
  subst q2
  exact E 16 _ zd_L_found_16

set_option maxHeartbeats 4000000 in
set_option maxRecDepth 100000 in
theorem zx_L_found_IA (l : Launch) (hl : l.stackTraces = false) (D : va_G) (cB cI cJ : ClassId) (xa : Nat) (qa : Nat) (qb : Nat) (sa : Nat) (sb : Nat) (pa : Nat) (pb : Nat) (da : Nat) (db : Nat) (ka : Nat) (ha : Nat) (ta : Nat) (wa : Nat) (va : Nat) (hb : Nat) (hc : Nat) (ea : Nat) (ua : Nat) (oa : Nat) (qn : Int32) (qf : Nat → Int32) (sn : Int32) (sf : Nat → Int32) (pn : Int32) (pf : Nat → Int32) (dn : Int32) (df : Nat → Int32) (tf : Nat → Int32) (an : Int32) (mt : Int32) (co : Int32) (ra : Int32) (rr : Int32) (zra : Int32) (zrr : Int32) (zrp : Int32) (i1 : Int32) (ox : Nat → Int64) (h : zf_X_found_IA i1 = some ()) : CoC l zy_L_found zv_L_found { frames := 7, cells := 1, slots := 6, locals := 111 } D cB cI cJ [.ref xa, .int i1, .ref oa] [(xa, .inr (7, [.ref qa, .ref sa, .ref pa, .ref da, .ref ka, .ref wa, .ref va, .ref ea, .ref ua])), (qa, .inr (4, [.ref qb, .int qn])), (qb, .inl (cB, 160, .inl qf)), (sa, .inr (4, [.ref sb, .int sn])), (sb, .inl (cB, 200, .inl sf)), (pa, .inr (4, [.ref pb, .int pn])), (pb, .inl (cB, 64, .inl pf)), (da, .inr (4, [.ref db, .int dn])), (db, .inl (cB, 160, .inl df)), (ha, .inr (2, [.ref pa, .ref qa])), (ka, .inr (3, [.ref pa, .ref qa, .ref ha, .ref ta, .int an, .int mt, .int co])), (ta, .inl (cI, 32, .inl tf)), (wa, .inr (6, [.ref qa, .ref sa])), (va, .inr (1, [.ref qa, .ref sa])), (hb, .inr (2, [.ref pa, .ref da])), (hc, .inr (2, [.ref pa, .ref da])), (ea, .inr (5, [.ref sa, .ref da, .ref hb, .int ra, .int rr])), (ua, .inr (0, [.ref sa, .ref da, .ref hc, .int zra, .int zrr, .int zrp])), (oa, .inl (cJ, 1, .inr (.inl ox)))] 1 := by
  refine CoC.ofG (hh := zh_L_found) (cc := zc_L_found) (maxL := 4) (own := RL) (by decide) rfl rfl (Nat.le_of_ble_eq_true rfl) (L0 := [(0, .ref xa), (1, .int i1), (2, .ref oa)]) rfl (fun k F X B E => ?_)
  refine G_aload_n F zd_L_found_0 rfl (j := 2) rfl ?_
  refine G_iconst (v := (0 : Int32)) F zd_L_found_1 (by decide) ?_
  refine G_aload_n F zd_L_found_2 rfl (j := 0) rfl ?_
  refine G_iload_n F zd_L_found_3 rfl (j := 1) rfl ?_
  refine G_cV F X B (zk_X_found_IA l hl D cB cI cJ xa qa qb sa sb pa pb da db ka ha ta wa va hb hc ea ua qn qf sn sf pn pf dn df tf an mt co ra rr zra zrr zrp i1 h) (rest := [.int (0 : Int32), .ref oa]) [0, 1, 2, 3, 4, 5, 6, 7, 8, 9, 10, 11, 12, 13, 14, 15, 16, 17] rfl rfl (q0 := 0) rfl cv_L_34_X rfl rfl ⟨Nat.le_of_ble_eq_true rfl, Nat.le_of_ble_eq_true rfl⟩ ⟨Nat.le_of_ble_eq_true rfl, Nat.le_of_ble_eq_true rfl⟩ rfl (Nat.le_of_ble_eq_true rfl) zd_L_found_4 rfl [] (⟨0, 9, 12, 13⟩ : ExceptionTableEntry) [] rfl (fun z hz => nomatch hz) (by decide) (by decide) aw_603 (Or.inl rfl) (fun q => ?_)
  refine G_astore_n F zd_L_found_12 rfl (by decide) (L' := [(3, .ref q), (0, .ref xa), (1, .int i1), (2, .ref oa)]) rfl ?_
  refine G_iconst (v := (1 : Int32)) F zd_L_found_13 (by decide) ?_
  exact E 14 _ zd_L_found_14

def zf_L_crc (qn : Int32) (qf : Nat → Int32) (sn : Int32) (sf : Nat → Int32) (pn : Int32) (pf : Nat → Int32) (i1 : Int32) (ox : Nat → Int64) : Option (Int32 × (Nat → Int64)) := bc1 (zf_X_crc qn qf sn sf pn pf i1) fun v1 => gd (¬ ((0 : Int32) < 0 ∨ 1 ≤ Int32.toNatClampNeg (0 : Int32))) <| bnd (vp_updL ox (Int32.toNatClampNeg (0 : Int32)) (v1.toInt64)) fun v2 => some ((0 : Int32), v2)
set_option maxHeartbeats 4000000 in
set_option maxRecDepth 100000 in
theorem zk_L_crc (l : Launch) (D : va_G) (cB cI cJ : ClassId) (xa : Nat) (qa : Nat) (qb : Nat) (sa : Nat) (sb : Nat) (pa : Nat) (pb : Nat) (da : Nat) (db : Nat) (ka : Nat) (ha : Nat) (ta : Nat) (wa : Nat) (va : Nat) (hb : Nat) (hc : Nat) (ea : Nat) (ua : Nat) (oa : Nat) (qn : Int32) (qf : Nat → Int32) (sn : Int32) (sf : Nat → Int32) (pn : Int32) (pf : Nat → Int32) (dn : Int32) (df : Nat → Int32) (tf : Nat → Int32) (an : Int32) (mt : Int32) (co : Int32) (ra : Int32) (rr : Int32) (zra : Int32) (zrr : Int32) (zrp : Int32) (i1 : Int32) (ox : Nat → Int64) (r : Int32) (ox' : Nat → Int64) (h : zf_L_crc qn qf sn sf pn pf i1 ox = some (r, ox')) : CoI l zy_L_crc zv_L_crc { frames := 2, cells := 0, slots := 0, locals := 46 } D cB cI cJ [.ref xa, .int i1, .ref oa] [(xa, .inr (7, [.ref qa, .ref sa, .ref pa, .ref da, .ref ka, .ref wa, .ref va, .ref ea, .ref ua])), (qa, .inr (4, [.ref qb, .int qn])), (qb, .inl (cB, 160, .inl qf)), (sa, .inr (4, [.ref sb, .int sn])), (sb, .inl (cB, 200, .inl sf)), (pa, .inr (4, [.ref pb, .int pn])), (pb, .inl (cB, 64, .inl pf)), (da, .inr (4, [.ref db, .int dn])), (db, .inl (cB, 160, .inl df)), (ha, .inr (2, [.ref pa, .ref qa])), (ka, .inr (3, [.ref pa, .ref qa, .ref ha, .ref ta, .int an, .int mt, .int co])), (ta, .inl (cI, 32, .inl tf)), (wa, .inr (6, [.ref qa, .ref sa])), (va, .inr (1, [.ref qa, .ref sa])), (hb, .inr (2, [.ref pa, .ref da])), (hc, .inr (2, [.ref pa, .ref da])), (ea, .inr (5, [.ref sa, .ref da, .ref hb, .int ra, .int rr])), (ua, .inr (0, [.ref sa, .ref da, .ref hc, .int zra, .int zrr, .int zrp])), (oa, .inl (cJ, 1, .inr (.inl ox)))] r [(xa, .inr (7, [.ref qa, .ref sa, .ref pa, .ref da, .ref ka, .ref wa, .ref va, .ref ea, .ref ua])), (qa, .inr (4, [.ref qb, .int qn])), (qb, .inl (cB, 160, .inl qf)), (sa, .inr (4, [.ref sb, .int sn])), (sb, .inl (cB, 200, .inl sf)), (pa, .inr (4, [.ref pb, .int pn])), (pb, .inl (cB, 64, .inl pf)), (da, .inr (4, [.ref db, .int dn])), (db, .inl (cB, 160, .inl df)), (ha, .inr (2, [.ref pa, .ref qa])), (ka, .inr (3, [.ref pa, .ref qa, .ref ha, .ref ta, .int an, .int mt, .int co])), (ta, .inl (cI, 32, .inl tf)), (wa, .inr (6, [.ref qa, .ref sa])), (va, .inr (1, [.ref qa, .ref sa])), (hb, .inr (2, [.ref pa, .ref da])), (hc, .inr (2, [.ref pa, .ref da])), (ea, .inr (5, [.ref sa, .ref da, .ref hb, .int ra, .int rr])), (ua, .inr (0, [.ref sa, .ref da, .ref hc, .int zra, .int zrr, .int zrp])), (oa, .inl (cJ, 1, .inr (.inl ox')))] := by
  unfold zf_L_crc at h
  refine CoI.ofGW (hh := zh_L_crc) (cc := zc_L_crc) (maxL := 4) (own := RL) (by decide) rfl rfl rfl trivial (Nat.le_of_ble_eq_true rfl) (L0 := [(0, .ref xa), (1, .int i1), (2, .ref oa)]) rfl (fun k F E => ?_)
  refine G_aload_n F zd_L_crc_0 rfl (j := 2) rfl ?_
  refine G_iconst (v := (0 : Int32)) F zd_L_crc_1 (by decide) ?_
  refine G_aload_n F zd_L_crc_2 rfl (j := 0) rfl ?_
  refine G_iload_n F zd_L_crc_3 rfl (j := 1) rfl ?_
  obtain ⟨v1, hc4, h⟩ := bc1_s h
  refine G_calliV0 F (zk_X_crc l D cB cI cJ xa qa qb sa sb pa pb da db ka ha ta wa va hb hc ea ua qn qf sn sf pn pf dn df tf an mt co ra rr zra zrr zrp i1 v1 hc4) (rest := [.int (0 : Int32), .ref oa]) [0, 1, 2, 3, 4, 5, 6, 7, 8, 9, 10, 11, 12, 13, 14, 15, 16, 17] rfl rfl (q0 := 0) rfl cv_L_37_X rfl rfl ⟨Nat.le_of_ble_eq_true rfl, Nat.le_of_ble_eq_true rfl⟩ hf0 rfl (Nat.le_of_ble_eq_true rfl) zd_L_crc_4 rfl ?_
  refine G_i2l F zd_L_crc_7 ?_
  obtain ⟨h0, h⟩ := gd_s h
  obtain ⟨v2, ev2, h⟩ := bnd_s h
  refine G_lastore F zd_L_crc_8 (q := 18) rfl h0 ev2 (ws' := [(xa, .inr (7, [.ref qa, .ref sa, .ref pa, .ref da, .ref ka, .ref wa, .ref va, .ref ea, .ref ua])), (qa, .inr (4, [.ref qb, .int qn])), (qb, .inl (cB, 160, .inl qf)), (sa, .inr (4, [.ref sb, .int sn])), (sb, .inl (cB, 200, .inl sf)), (pa, .inr (4, [.ref pb, .int pn])), (pb, .inl (cB, 64, .inl pf)), (da, .inr (4, [.ref db, .int dn])), (db, .inl (cB, 160, .inl df)), (ha, .inr (2, [.ref pa, .ref qa])), (ka, .inr (3, [.ref pa, .ref qa, .ref ha, .ref ta, .int an, .int mt, .int co])), (ta, .inl (cI, 32, .inl tf)), (wa, .inr (6, [.ref qa, .ref sa])), (va, .inr (1, [.ref qa, .ref sa])), (hb, .inr (2, [.ref pa, .ref da])), (hc, .inr (2, [.ref pa, .ref da])), (ea, .inr (5, [.ref sa, .ref da, .ref hb, .int ra, .int rr])), (ua, .inr (0, [.ref sa, .ref da, .ref hc, .int zra, .int zrr, .int zrp])), (oa, .inl (cJ, 1, .inr (.inl v2)))]) rfl ?_
  refine G_goto F zd_L_crc_9 (tgt := 15) rfl ?_
  refine G_iconst (v := (0 : Int32)) F zd_L_crc_15 (by decide) ?_
  obtain ⟨q1, q2⟩ := inj2 h
  subst q1
  subst q2
  exact E 16 _ zd_L_crc_16

set_option maxHeartbeats 4000000 in
set_option maxRecDepth 100000 in
theorem zx_L_crc_IA (l : Launch) (hl : l.stackTraces = false) (D : va_G) (cB cI cJ : ClassId) (xa : Nat) (qa : Nat) (qb : Nat) (sa : Nat) (sb : Nat) (pa : Nat) (pb : Nat) (da : Nat) (db : Nat) (ka : Nat) (ha : Nat) (ta : Nat) (wa : Nat) (va : Nat) (hb : Nat) (hc : Nat) (ea : Nat) (ua : Nat) (oa : Nat) (qn : Int32) (qf : Nat → Int32) (sn : Int32) (sf : Nat → Int32) (pn : Int32) (pf : Nat → Int32) (dn : Int32) (df : Nat → Int32) (tf : Nat → Int32) (an : Int32) (mt : Int32) (co : Int32) (ra : Int32) (rr : Int32) (zra : Int32) (zrr : Int32) (zrp : Int32) (i1 : Int32) (ox : Nat → Int64) (h : zf_X_crc_IA i1 = some ()) : CoC l zy_L_crc zv_L_crc { frames := 8, cells := 1, slots := 6, locals := 135 } D cB cI cJ [.ref xa, .int i1, .ref oa] [(xa, .inr (7, [.ref qa, .ref sa, .ref pa, .ref da, .ref ka, .ref wa, .ref va, .ref ea, .ref ua])), (qa, .inr (4, [.ref qb, .int qn])), (qb, .inl (cB, 160, .inl qf)), (sa, .inr (4, [.ref sb, .int sn])), (sb, .inl (cB, 200, .inl sf)), (pa, .inr (4, [.ref pb, .int pn])), (pb, .inl (cB, 64, .inl pf)), (da, .inr (4, [.ref db, .int dn])), (db, .inl (cB, 160, .inl df)), (ha, .inr (2, [.ref pa, .ref qa])), (ka, .inr (3, [.ref pa, .ref qa, .ref ha, .ref ta, .int an, .int mt, .int co])), (ta, .inl (cI, 32, .inl tf)), (wa, .inr (6, [.ref qa, .ref sa])), (va, .inr (1, [.ref qa, .ref sa])), (hb, .inr (2, [.ref pa, .ref da])), (hc, .inr (2, [.ref pa, .ref da])), (ea, .inr (5, [.ref sa, .ref da, .ref hb, .int ra, .int rr])), (ua, .inr (0, [.ref sa, .ref da, .ref hc, .int zra, .int zrr, .int zrp])), (oa, .inl (cJ, 1, .inr (.inl ox)))] 1 := by
  refine CoC.ofG (hh := zh_L_crc) (cc := zc_L_crc) (maxL := 4) (own := RL) (by decide) rfl rfl (Nat.le_of_ble_eq_true rfl) (L0 := [(0, .ref xa), (1, .int i1), (2, .ref oa)]) rfl (fun k F X B E => ?_)
  refine G_aload_n F zd_L_crc_0 rfl (j := 2) rfl ?_
  refine G_iconst (v := (0 : Int32)) F zd_L_crc_1 (by decide) ?_
  refine G_aload_n F zd_L_crc_2 rfl (j := 0) rfl ?_
  refine G_iload_n F zd_L_crc_3 rfl (j := 1) rfl ?_
  refine G_cV F X B (zk_X_crc_IA l hl D cB cI cJ xa qa qb sa sb pa pb da db ka ha ta wa va hb hc ea ua qn qf sn sf pn pf dn df tf an mt co ra rr zra zrr zrp i1 h) (rest := [.int (0 : Int32), .ref oa]) [0, 1, 2, 3, 4, 5, 6, 7, 8, 9, 10, 11, 12, 13, 14, 15, 16, 17] rfl rfl (q0 := 0) rfl cv_L_37_X rfl rfl ⟨Nat.le_of_ble_eq_true rfl, Nat.le_of_ble_eq_true rfl⟩ ⟨Nat.le_of_ble_eq_true rfl, Nat.le_of_ble_eq_true rfl⟩ rfl (Nat.le_of_ble_eq_true rfl) zd_L_crc_4 rfl [] (⟨0, 9, 12, 13⟩ : ExceptionTableEntry) [] rfl (fun z hz => nomatch hz) (by decide) (by decide) aw_603 (Or.inl rfl) (fun q => ?_)
  refine G_astore_n F zd_L_crc_12 rfl (by decide) (L' := [(3, .ref q), (0, .ref xa), (1, .int i1), (2, .ref oa)]) rfl ?_
  refine G_iconst (v := (1 : Int32)) F zd_L_crc_13 (by decide) ?_
  exact E 14 _ zd_L_crc_14

def zf_L_hash (qn : Int32) (qf : Nat → Int32) (sn : Int32) (sf : Nat → Int32) (pn : Int32) (pf : Nat → Int32) (i1 : Int32) (i2 : Int32) (ox : Nat → Int64) : Option (Int32 × (Nat → Int64)) := bc1 (zf_X_hash qn qf sn sf pn pf i1 i2) fun v1 => gd (¬ ((0 : Int32) < 0 ∨ 1 ≤ Int32.toNatClampNeg (0 : Int32))) <| bnd (vp_updL ox (Int32.toNatClampNeg (0 : Int32)) (v1.toInt64)) fun v2 => some ((0 : Int32), v2)
set_option maxHeartbeats 4000000 in
set_option maxRecDepth 100000 in
theorem zk_L_hash (l : Launch) (D : va_G) (cB cI cJ : ClassId) (xa : Nat) (qa : Nat) (qb : Nat) (sa : Nat) (sb : Nat) (pa : Nat) (pb : Nat) (da : Nat) (db : Nat) (ka : Nat) (ha : Nat) (ta : Nat) (wa : Nat) (va : Nat) (hb : Nat) (hc : Nat) (ea : Nat) (ua : Nat) (oa : Nat) (qn : Int32) (qf : Nat → Int32) (sn : Int32) (sf : Nat → Int32) (pn : Int32) (pf : Nat → Int32) (dn : Int32) (df : Nat → Int32) (tf : Nat → Int32) (an : Int32) (mt : Int32) (co : Int32) (ra : Int32) (rr : Int32) (zra : Int32) (zrr : Int32) (zrp : Int32) (i1 : Int32) (i2 : Int32) (ox : Nat → Int64) (r : Int32) (ox' : Nat → Int64) (h : zf_L_hash qn qf sn sf pn pf i1 i2 ox = some (r, ox')) : CoI l zy_L_hash zv_L_hash { frames := 5, cells := 0, slots := 0, locals := 111 } D cB cI cJ [.ref xa, .int i1, .int i2, .ref oa] [(xa, .inr (7, [.ref qa, .ref sa, .ref pa, .ref da, .ref ka, .ref wa, .ref va, .ref ea, .ref ua])), (qa, .inr (4, [.ref qb, .int qn])), (qb, .inl (cB, 160, .inl qf)), (sa, .inr (4, [.ref sb, .int sn])), (sb, .inl (cB, 200, .inl sf)), (pa, .inr (4, [.ref pb, .int pn])), (pb, .inl (cB, 64, .inl pf)), (da, .inr (4, [.ref db, .int dn])), (db, .inl (cB, 160, .inl df)), (ha, .inr (2, [.ref pa, .ref qa])), (ka, .inr (3, [.ref pa, .ref qa, .ref ha, .ref ta, .int an, .int mt, .int co])), (ta, .inl (cI, 32, .inl tf)), (wa, .inr (6, [.ref qa, .ref sa])), (va, .inr (1, [.ref qa, .ref sa])), (hb, .inr (2, [.ref pa, .ref da])), (hc, .inr (2, [.ref pa, .ref da])), (ea, .inr (5, [.ref sa, .ref da, .ref hb, .int ra, .int rr])), (ua, .inr (0, [.ref sa, .ref da, .ref hc, .int zra, .int zrr, .int zrp])), (oa, .inl (cJ, 1, .inr (.inl ox)))] r [(xa, .inr (7, [.ref qa, .ref sa, .ref pa, .ref da, .ref ka, .ref wa, .ref va, .ref ea, .ref ua])), (qa, .inr (4, [.ref qb, .int qn])), (qb, .inl (cB, 160, .inl qf)), (sa, .inr (4, [.ref sb, .int sn])), (sb, .inl (cB, 200, .inl sf)), (pa, .inr (4, [.ref pb, .int pn])), (pb, .inl (cB, 64, .inl pf)), (da, .inr (4, [.ref db, .int dn])), (db, .inl (cB, 160, .inl df)), (ha, .inr (2, [.ref pa, .ref qa])), (ka, .inr (3, [.ref pa, .ref qa, .ref ha, .ref ta, .int an, .int mt, .int co])), (ta, .inl (cI, 32, .inl tf)), (wa, .inr (6, [.ref qa, .ref sa])), (va, .inr (1, [.ref qa, .ref sa])), (hb, .inr (2, [.ref pa, .ref da])), (hc, .inr (2, [.ref pa, .ref da])), (ea, .inr (5, [.ref sa, .ref da, .ref hb, .int ra, .int rr])), (ua, .inr (0, [.ref sa, .ref da, .ref hc, .int zra, .int zrr, .int zrp])), (oa, .inl (cJ, 1, .inr (.inl ox')))] := by
  unfold zf_L_hash at h
  refine CoI.ofGW (hh := zh_L_hash) (cc := zc_L_hash) (maxL := 5) (own := RL) (by decide) rfl rfl rfl trivial (Nat.le_of_ble_eq_true rfl) (L0 := [(0, .ref xa), (1, .int i1), (2, .int i2), (3, .ref oa)]) rfl (fun k F E => ?_)
  refine G_aload_n F zd_L_hash_0 rfl (j := 3) rfl ?_
  refine G_iconst (v := (0 : Int32)) F zd_L_hash_1 (by decide) ?_
  refine G_aload_n F zd_L_hash_2 rfl (j := 0) rfl ?_
  refine G_iload_n F zd_L_hash_3 rfl (j := 1) rfl ?_
  refine G_iload_n F zd_L_hash_4 rfl (j := 2) rfl ?_
  obtain ⟨v1, hc5, h⟩ := bc1_s h
  refine G_calliV0 F (zk_X_hash l D cB cI cJ xa qa qb sa sb pa pb da db ka ha ta wa va hb hc ea ua qn qf sn sf pn pf dn df tf an mt co ra rr zra zrr zrp i1 i2 v1 hc5) (rest := [.int (0 : Int32), .ref oa]) [0, 1, 2, 3, 4, 5, 6, 7, 8, 9, 10, 11, 12, 13, 14, 15, 16, 17] rfl rfl (q0 := 0) rfl cv_L_40_X rfl rfl ⟨Nat.le_of_ble_eq_true rfl, Nat.le_of_ble_eq_true rfl⟩ hf0 rfl (Nat.le_of_ble_eq_true rfl) zd_L_hash_5 rfl ?_
  refine G_i2l F zd_L_hash_8 ?_
  obtain ⟨h0, h⟩ := gd_s h
  obtain ⟨v2, ev2, h⟩ := bnd_s h
  refine G_lastore F zd_L_hash_9 (q := 18) rfl h0 ev2 (ws' := [(xa, .inr (7, [.ref qa, .ref sa, .ref pa, .ref da, .ref ka, .ref wa, .ref va, .ref ea, .ref ua])), (qa, .inr (4, [.ref qb, .int qn])), (qb, .inl (cB, 160, .inl qf)), (sa, .inr (4, [.ref sb, .int sn])), (sb, .inl (cB, 200, .inl sf)), (pa, .inr (4, [.ref pb, .int pn])), (pb, .inl (cB, 64, .inl pf)), (da, .inr (4, [.ref db, .int dn])), (db, .inl (cB, 160, .inl df)), (ha, .inr (2, [.ref pa, .ref qa])), (ka, .inr (3, [.ref pa, .ref qa, .ref ha, .ref ta, .int an, .int mt, .int co])), (ta, .inl (cI, 32, .inl tf)), (wa, .inr (6, [.ref qa, .ref sa])), (va, .inr (1, [.ref qa, .ref sa])), (hb, .inr (2, [.ref pa, .ref da])), (hc, .inr (2, [.ref pa, .ref da])), (ea, .inr (5, [.ref sa, .ref da, .ref hb, .int ra, .int rr])), (ua, .inr (0, [.ref sa, .ref da, .ref hc, .int zra, .int zrr, .int zrp])), (oa, .inl (cJ, 1, .inr (.inl v2)))]) rfl ?_
  refine G_goto F zd_L_hash_10 (tgt := 17) rfl ?_
  refine G_iconst (v := (0 : Int32)) F zd_L_hash_17 (by decide) ?_
  obtain ⟨q1, q2⟩ := inj2 h
  subst q1
  subst q2
  exact E 18 _ zd_L_hash_18

set_option maxHeartbeats 4000000 in
set_option maxRecDepth 100000 in
theorem zx_L_hash_IA (l : Launch) (hl : l.stackTraces = false) (D : va_G) (cB cI cJ : ClassId) (xa : Nat) (qa : Nat) (qb : Nat) (sa : Nat) (sb : Nat) (pa : Nat) (pb : Nat) (da : Nat) (db : Nat) (ka : Nat) (ha : Nat) (ta : Nat) (wa : Nat) (va : Nat) (hb : Nat) (hc : Nat) (ea : Nat) (ua : Nat) (oa : Nat) (qn : Int32) (qf : Nat → Int32) (sn : Int32) (sf : Nat → Int32) (pn : Int32) (pf : Nat → Int32) (dn : Int32) (df : Nat → Int32) (tf : Nat → Int32) (an : Int32) (mt : Int32) (co : Int32) (ra : Int32) (rr : Int32) (zra : Int32) (zrr : Int32) (zrp : Int32) (i1 : Int32) (i2 : Int32) (ox : Nat → Int64) (h : zf_X_hash_IA i1 = some ()) : CoC l zy_L_hash zv_L_hash { frames := 8, cells := 1, slots := 6, locals := 135 } D cB cI cJ [.ref xa, .int i1, .int i2, .ref oa] [(xa, .inr (7, [.ref qa, .ref sa, .ref pa, .ref da, .ref ka, .ref wa, .ref va, .ref ea, .ref ua])), (qa, .inr (4, [.ref qb, .int qn])), (qb, .inl (cB, 160, .inl qf)), (sa, .inr (4, [.ref sb, .int sn])), (sb, .inl (cB, 200, .inl sf)), (pa, .inr (4, [.ref pb, .int pn])), (pb, .inl (cB, 64, .inl pf)), (da, .inr (4, [.ref db, .int dn])), (db, .inl (cB, 160, .inl df)), (ha, .inr (2, [.ref pa, .ref qa])), (ka, .inr (3, [.ref pa, .ref qa, .ref ha, .ref ta, .int an, .int mt, .int co])), (ta, .inl (cI, 32, .inl tf)), (wa, .inr (6, [.ref qa, .ref sa])), (va, .inr (1, [.ref qa, .ref sa])), (hb, .inr (2, [.ref pa, .ref da])), (hc, .inr (2, [.ref pa, .ref da])), (ea, .inr (5, [.ref sa, .ref da, .ref hb, .int ra, .int rr])), (ua, .inr (0, [.ref sa, .ref da, .ref hc, .int zra, .int zrr, .int zrp])), (oa, .inl (cJ, 1, .inr (.inl ox)))] 1 := by
  refine CoC.ofG (hh := zh_L_hash) (cc := zc_L_hash) (maxL := 5) (own := RL) (by decide) rfl rfl (Nat.le_of_ble_eq_true rfl) (L0 := [(0, .ref xa), (1, .int i1), (2, .int i2), (3, .ref oa)]) rfl (fun k F X B E => ?_)
  refine G_aload_n F zd_L_hash_0 rfl (j := 3) rfl ?_
  refine G_iconst (v := (0 : Int32)) F zd_L_hash_1 (by decide) ?_
  refine G_aload_n F zd_L_hash_2 rfl (j := 0) rfl ?_
  refine G_iload_n F zd_L_hash_3 rfl (j := 1) rfl ?_
  refine G_iload_n F zd_L_hash_4 rfl (j := 2) rfl ?_
  refine G_cV F X B (zk_X_hash_IA l hl D cB cI cJ xa qa qb sa sb pa pb da db ka ha ta wa va hb hc ea ua qn qf sn sf pn pf dn df tf an mt co ra rr zra zrr zrp i1 i2 h) (rest := [.int (0 : Int32), .ref oa]) [0, 1, 2, 3, 4, 5, 6, 7, 8, 9, 10, 11, 12, 13, 14, 15, 16, 17] rfl rfl (q0 := 0) rfl cv_L_40_X rfl rfl ⟨Nat.le_of_ble_eq_true rfl, Nat.le_of_ble_eq_true rfl⟩ ⟨Nat.le_of_ble_eq_true rfl, Nat.le_of_ble_eq_true rfl⟩ rfl (Nat.le_of_ble_eq_true rfl) zd_L_hash_5 rfl [] (⟨0, 10, 13, 13⟩ : ExceptionTableEntry) [] rfl (fun z hz => nomatch hz) (by decide) (by decide) aw_603 (Or.inl rfl) (fun q => ?_)
  refine G_astore F zd_L_hash_13 (by decide) (L' := [(4, .ref q), (0, .ref xa), (1, .int i1), (2, .int i2), (3, .ref oa)]) rfl ?_
  refine G_iconst (v := (1 : Int32)) F zd_L_hash_15 (by decide) ?_
  exact E 16 _ zd_L_hash_16

