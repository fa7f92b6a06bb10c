theorem aw_479 : (Cond.laysFinal RX9 "PressSuite" "plain" "LPressSuite$Row;") ∈ AW := aw_of 230 (by decide +kernel) (by decide +kernel)
theorem aw_480 : (Cond.laysFinal RX9 "PressSuite" "packed" "LPressSuite$Row;") ∈ AW := aw_of 232 (by decide +kernel) (by decide +kernel)
theorem aw_481 : (Cond.laysFinal RX9 "PressSuite" "past" "LPressSuite$Row;") ∈ AW := aw_of 234 (by decide +kernel) (by decide +kernel)
theorem aw_482 : (Cond.laysFinal RX9 "PressSuite" "draft" "LPressSuite$Row;") ∈ AW := aw_of 236 (by decide +kernel) (by decide +kernel)
theorem aw_483 : (Cond.laysFinal RX9 "PressSuite" "packer" "LPressSuite$Packer;") ∈ AW := aw_of 238 (by decide +kernel) (by decide +kernel)
theorem aw_484 : (Cond.laysFinal RX9 "PressSuite" "sequenceWriter" "LPressSuite$Writer;") ∈ AW := aw_of 240 (by decide +kernel) (by decide +kernel)
theorem aw_485 : (Cond.laysFinal RX9 "PressSuite" "elementWriter" "LPressSuite$Writer;") ∈ AW := aw_of 242 (by decide +kernel) (by decide +kernel)
theorem aw_486 : (Cond.laysFinal RX9 "PressSuite" "sequenceReader" "LPressSuite$Reader;") ∈ AW := aw_of 244 (by decide +kernel) (by decide +kernel)
theorem aw_487 : (Cond.laysFinal RX9 "PressSuite" "elementReader" "LPressSuite$Reader;") ∈ AW := aw_of 246 (by decide +kernel) (by decide +kernel)
theorem aw_488 : (Cond.fieldLink RX9 21 "PressSuite" "past" "LPressSuite$Row;") ∈ AW := aw_of 223 (by decide +kernel) (by decide +kernel)
theorem aw_489 : (Cond.fieldLink RX9 18 "PressSuite" "packed" "LPressSuite$Row;") ∈ AW := aw_of 222 (by decide +kernel) (by decide +kernel)
theorem aw_490 : (Cond.fieldLink RX9 14 "PressSuite" "plain" "LPressSuite$Row;") ∈ AW := aw_of 221 (by decide +kernel) (by decide +kernel)
theorem aw_491 : (Cond.methodLink RX9 64 zy_X_rowOf) ∈ AW := aw_of 258 (by decide +kernel) (by decide +kernel)
theorem aw_492 : (Cond.instanceMethod zy_X_rowOf) ∈ AW := aw_of 260 (by decide +kernel) (by decide +kernel)
theorem aw_493 : (Cond.selects RX9 zy_X_rowOf zy_X_rowOf) ∈ AW := aw_of 0 (by decide +kernel) (by decide +kernel)
theorem aw_494 : (Cond.code zy_X_rowOf zc_X_rowOf 2 (some (.object "PressSuite$Row"))) ∈ AW := aw_of 261 (by decide +kernel) (by decide +kernel)
theorem aw_495 : (Cond.methodLink RX9 75 zy_R_room) ∈ AW := aw_of 329 (by decide +kernel) (by decide +kernel)
theorem aw_496 : (Cond.instanceMethod zy_R_room) ∈ AW := aw_of 330 (by decide +kernel) (by decide +kernel)
theorem aw_497 : (Cond.selects RX5 zy_R_room zy_R_room) ∈ AW := aw_of 331 (by decide +kernel) (by decide +kernel)
theorem aw_498 : (Cond.methodLink RX9 84 zy_R_add) ∈ AW := aw_of 349 (by decide +kernel) (by decide +kernel)
theorem aw_499 : (Cond.methodLink RX9 91 zy_R_clear) ∈ AW := aw_of 360 (by decide +kernel) (by decide +kernel)
theorem aw_500 : (Cond.methodLink RX9 94 zy_X_requireFormat) ∈ AW := aw_of 371 (by decide +kernel) (by decide +kernel)
theorem aw_501 : (Cond.static zy_X_requireFormat) ∈ AW := aw_of 372 (by decide +kernel) (by decide +kernel)
theorem aw_502 : (Cond.code zy_X_requireFormat zc_X_requireFormat 1 none) ∈ AW := aw_of 373 (by decide +kernel) (by decide +kernel)
theorem aw_503 : (Cond.fieldLink RX9 32 "PressSuite" "packer" "LPressSuite$Packer;") ∈ AW := aw_of 225 (by decide +kernel) (by decide +kernel)
theorem aw_504 : (Cond.fieldLink RX9 46 "PressSuite" "elementWriter" "LPressSuite$Writer;") ∈ AW := aw_of 227 (by decide +kernel) (by decide +kernel)
theorem aw_505 : (Cond.fieldLink RX9 39 "PressSuite" "sequenceWriter" "LPressSuite$Writer;") ∈ AW := aw_of 226 (by decide +kernel) (by decide +kernel)
theorem aw_506 : (Cond.methodLink RX9 97 zy_P_run) ∈ AW := aw_of 375 (by decide +kernel) (by decide +kernel)
theorem aw_507 : (Cond.instanceMethod zy_P_run) ∈ AW := aw_of 376 (by decide +kernel) (by decide +kernel)
theorem aw_508 : (Cond.selects RX3 zy_P_run zy_P_run) ∈ AW := aw_of 377 (by decide +kernel) (by decide +kernel)
theorem aw_509 : (Cond.fieldLink RX9 61 "PressSuite" "elementReader" "LPressSuite$Reader;") ∈ AW := aw_of 229 (by decide +kernel) (by decide +kernel)
theorem aw_510 : (Cond.fieldLink RX9 54 "PressSuite" "sequenceReader" "LPressSuite$Reader;") ∈ AW := aw_of 228 (by decide +kernel) (by decide +kernel)
theorem aw_511 : (Cond.methodLink RX9 101 ⟨"PressSuite$Reader", "rewind", "()V"⟩) ∈ AW := aw_of 488 (by decide +kernel) (by decide +kernel)
theorem aw_512 : (Cond.sameMethod "PressSuite$Reader" "PressSuite$Reader" "rewind" "()V") ∈ AW := aw_of 490 (by decide +kernel) (by decide +kernel)
theorem aw_513 : (Cond.selects RX0 ⟨"PressSuite$Reader", "rewind", "()V"⟩ zy_D_rewind) ∈ AW := aw_of 491 (by decide +kernel) (by decide +kernel)
theorem aw_514 : (Cond.instanceMethod zy_D_rewind) ∈ AW := aw_of 489 (by decide +kernel) (by decide +kernel)
theorem aw_515 : (Cond.methodLink RX9 106 ⟨"PressSuite$Reader", "readAll", "()V"⟩) ∈ AW := aw_of 495 (by decide +kernel) (by decide +kernel)
theorem aw_516 : (Cond.sameMethod "PressSuite$Reader" "PressSuite$Reader" "readAll" "()V") ∈ AW := aw_of 497 (by decide +kernel) (by decide +kernel)
theorem aw_517 : (Cond.selects RX0 ⟨"PressSuite$Reader", "readAll", "()V"⟩ zy_ER_readAll) ∈ AW := aw_of 498 (by decide +kernel) (by decide +kernel)
theorem aw_518 : (Cond.instanceMethod zy_ER_readAll) ∈ AW := aw_of 499 (by decide +kernel) (by decide +kernel)
theorem aw_519 : (Cond.methodLink RX9 109 ⟨"PressSuite$Reader", "refused", "()Z"⟩) ∈ AW := aw_of 620 (by decide +kernel) (by decide +kernel)
theorem aw_520 : (Cond.fieldLink RX9 24 "PressSuite" "draft" "LPressSuite$Row;") ∈ AW := aw_of 224 (by decide +kernel) (by decide +kernel)
theorem aw_521 : (Cond.methodLink RX9 116 zy_R_become) ∈ AW := aw_of 621 (by decide +kernel) (by decide +kernel)
theorem aw_522 : (Cond.instanceMethod zy_R_become) ∈ AW := aw_of 622 (by decide +kernel) (by decide +kernel)
theorem aw_523 : (Cond.selects RX5 zy_R_become zy_R_become) ∈ AW := aw_of 623 (by decide +kernel) (by decide +kernel)
theorem aw_524 : (Cond.selects RX6 ⟨"PressSuite$Reader", "rewind", "()V"⟩ zy_D_rewind) ∈ AW := aw_of 492 (by decide +kernel) (by decide +kernel)
theorem aw_525 : (Cond.selects RX6 ⟨"PressSuite$Reader", "readAll", "()V"⟩ zy_SR_readAll) ∈ AW := aw_of 585 (by decide +kernel) (by decide +kernel)
theorem aw_526 : (Cond.instanceMethod zy_SR_readAll) ∈ AW := aw_of 586 (by decide +kernel) (by decide +kernel)
theorem aw_527 : (Cond.methodLink RX9 134 zy_X_crcStep) ∈ AW := aw_of 659 (by decide +kernel) (by decide +kernel)
theorem aw_528 : (Cond.static zy_X_crcStep) ∈ AW := aw_of 660 (by decide +kernel) (by decide +kernel)
theorem aw_529 : (Cond.methodLink RX9 137 zy_X_mixLanes) ∈ AW := aw_of 670 (by decide +kernel) (by decide +kernel)
theorem aw_530 : (Cond.static zy_X_mixLanes) ∈ AW := aw_of 671 (by decide +kernel) (by decide +kernel)
theorem aw_531 : (Cond.methodLink RX9 142 zy_X_mixRest) ∈ AW := aw_of 686 (by decide +kernel) (by decide +kernel)
theorem aw_532 : (Cond.static zy_X_mixRest) ∈ AW := aw_of 687 (by decide +kernel) (by decide +kernel)
theorem aw_533 : (Cond.methodLink RX9 145 zy_X_finish) ∈ AW := aw_of 691 (by decide +kernel) (by decide +kernel)
theorem aw_534 : (Cond.static zy_X_finish) ∈ AW := aw_of 692 (by decide +kernel) (by decide +kernel)
theorem aw_535 : (Cond.code zy_X_put zc_X_put 7 none) ∈ AW := aw_of 257 (by decide +kernel) (by decide +kernel)
theorem aw_536 : (Cond.code zy_X_empty zc_X_empty 4 (some .int)) ∈ AW := aw_of 359 (by decide +kernel) (by decide +kernel)
theorem aw_537 : (Cond.code zy_X_pack zc_X_pack 2 (some .int)) ∈ AW := aw_of 370 (by decide +kernel) (by decide +kernel)
theorem aw_538 : (Cond.code zy_X_unpack zc_X_unpack 3 (some .int)) ∈ AW := aw_of 487 (by decide +kernel) (by decide +kernel)
theorem aw_539 : (Cond.code zy_X_size zc_X_size 2 (some .int)) ∈ AW := aw_of 634 (by decide +kernel) (by decide +kernel)
theorem aw_540 : (Cond.code zy_X_get zc_X_get 4 (some .int)) ∈ AW := aw_of 641 (by decide +kernel) (by decide +kernel)
theorem aw_541 : (Cond.code zy_X_found zc_X_found 2 (some .int)) ∈ AW := aw_of 650 (by decide +kernel) (by decide +kernel)
theorem aw_542 : (Cond.code zy_X_crc zc_X_crc 5 (some .int)) ∈ AW := aw_of 658 (by decide +kernel) (by decide +kernel)
theorem aw_543 : (Cond.code zy_X_hash zc_X_hash 5 (some .int)) ∈ AW := aw_of 669 (by decide +kernel) (by decide +kernel)
theorem nw_11 : (Cond.declares ⟨"PressSuite$Reader", "readAll", "()V"⟩) ∈ NW := nw_of 496 (by decide +kernel) (by decide +kernel)
theorem nw_12 : (Cond.fieldLinkNest RX9 113 "PressSuite$Reader" "refusedAt" "I" "PressSuite") ∈ NW := nw_of 194 (by decide +kernel) (by decide +kernel)
theorem nw_13 : (Cond.fieldLinkNest RX9 131 "PressSuite$Packer" "copied" "I" "PressSuite") ∈ NW := nw_of 118 (by decide +kernel) (by decide +kernel)
theorem nw_14 : (Cond.fieldLinkNest RX9 128 "PressSuite$Packer" "matches" "I" "PressSuite") ∈ NW := nw_of 116 (by decide +kernel) (by decide +kernel)
theorem uw_9 : ∀ w ∈ u_ws RX9 TX9 9, w ∈ AW := by
  intro w hw
  have e : u_ws RX9 TX9 9 = [Cond.laysFinal RX9 "PressSuite" "plain" "LPressSuite$Row;", Cond.laysFinal RX9 "PressSuite" "packed" "LPressSuite$Row;", Cond.laysFinal RX9 "PressSuite" "past" "LPressSuite$Row;", Cond.laysFinal RX9 "PressSuite" "draft" "LPressSuite$Row;", Cond.laysFinal RX9 "PressSuite" "packer" "LPressSuite$Packer;", Cond.laysFinal RX9 "PressSuite" "sequenceWriter" "LPressSuite$Writer;", Cond.laysFinal RX9 "PressSuite" "elementWriter" "LPressSuite$Writer;", Cond.laysFinal RX9 "PressSuite" "sequenceReader" "LPressSuite$Reader;", Cond.laysFinal RX9 "PressSuite" "elementReader" "LPressSuite$Reader;"] := rfl
  rw [e] at hw
  simp only [List.mem_cons, List.not_mem_nil, or_false] at hw
  rcases hw with rfl | rfl | rfl | rfl | rfl | rfl | rfl | rfl | rfl
  · exact aw_479
  · exact aw_480
  · exact aw_481
  · exact aw_482
  · exact aw_483
  · exact aw_484
  · exact aw_485
  · exact aw_486
  · exact aw_487
theorem fa_X_21_X : FA RX9 21 7 2 RX9 TX9 9 := ⟨uw_9, rfl, by decide, "PressSuite", Or.inl aw_488, Or.inl rfl⟩
theorem fa_X_18_X : FA RX9 18 7 1 RX9 TX9 9 := ⟨uw_9, rfl, by decide, "PressSuite", Or.inl aw_489, Or.inl rfl⟩
theorem fa_X_14_X : FA RX9 14 7 0 RX9 TX9 9 := ⟨uw_9, rfl, by decide, "PressSuite", Or.inl aw_490, Or.inl rfl⟩
theorem cv_X_64_X : Cond.methodLink RX9 64 zy_X_rowOf ∈ AW ∧ Cond.instanceMethod zy_X_rowOf ∈ AW ∧ Cond.selects (zy_X_rowOf).cls zy_X_rowOf zy_X_rowOf ∈ AW ∧ Cond.initialized (zy_X_rowOf).cls ∈ AW ∧ Cond.code zy_X_rowOf zc_X_rowOf 2 (some (.object "PressSuite$Row")) ∈ AW ∧ (∃ (T : u_T) (N : Nat), zCl[7]? = some ((zy_X_rowOf).cls, T, N)) ∧ (zy_X_rowOf).cls ≠ "java/lang/invoke/MethodHandle" ∧ (zy_X_rowOf).cls ≠ "java/lang/invoke/VarHandle" ∧ (parseMethodDescriptor (zy_X_rowOf).desc).map (fun d => d.parameters.length) = some 1 := ⟨aw_491, aw_492, aw_493, aw_450, aw_494, ⟨_, _, rfl⟩, by decide, by decide, by decide⟩
theorem cv_X_75_R : Cond.methodLink RX9 75 zy_R_room ∈ AW ∧ Cond.instanceMethod zy_R_room ∈ AW ∧ Cond.selects (zy_R_room).cls zy_R_room zy_R_room ∈ AW ∧ Cond.initialized (zy_R_room).cls ∈ AW ∧ Cond.code zy_R_room zc_R_room 1 (some .int) ∈ AW ∧ (∃ (T : u_T) (N : Nat), zCl[4]? = some ((zy_R_room).cls, T, N)) ∧ (zy_R_room).cls ≠ "java/lang/invoke/MethodHandle" ∧ (zy_R_room).cls ≠ "java/lang/invoke/VarHandle" ∧ (parseMethodDescriptor (zy_R_room).desc).map (fun d => d.parameters.length) = some 0 := ⟨aw_495, aw_496, aw_497, aw_7, aw_459, ⟨_, _, rfl⟩, by decide, by decide, by decide⟩
theorem cv_X_84_R : Cond.methodLink RX9 84 zy_R_add ∈ AW ∧ Cond.instanceMethod zy_R_add ∈ AW ∧ Cond.selects (zy_R_add).cls zy_R_add zy_R_add ∈ AW ∧ Cond.initialized (zy_R_add).cls ∈ AW ∧ Cond.code zy_R_add zc_R_add 2 none ∈ AW ∧ (∃ (T : u_T) (N : Nat), zCl[4]? = some ((zy_R_add).cls, T, N)) ∧ (zy_R_add).cls ≠ "java/lang/invoke/MethodHandle" ∧ (zy_R_add).cls ≠ "java/lang/invoke/VarHandle" ∧ (parseMethodDescriptor (zy_R_add).desc).map (fun d => d.parameters.length) = some 1 := ⟨aw_498, aw_14, aw_15, aw_7, aw_16, ⟨_, _, rfl⟩, by decide, by decide, by decide⟩
theorem cv_X_91_R : Cond.methodLink RX9 91 zy_R_clear ∈ AW ∧ Cond.instanceMethod zy_R_clear ∈ AW ∧ Cond.selects (zy_R_clear).cls zy_R_clear zy_R_clear ∈ AW ∧ Cond.initialized (zy_R_clear).cls ∈ AW ∧ Cond.code zy_R_clear zc_R_clear 1 none ∈ AW ∧ (∃ (T : u_T) (N : Nat), zCl[4]? = some ((zy_R_clear).cls, T, N)) ∧ (zy_R_clear).cls ≠ "java/lang/invoke/MethodHandle" ∧ (zy_R_clear).cls ≠ "java/lang/invoke/VarHandle" ∧ (parseMethodDescriptor (zy_R_clear).desc).map (fun d => d.parameters.length) = some 0 := ⟨aw_499, aw_10, aw_11, aw_7, aw_12, ⟨_, _, rfl⟩, by decide, by decide, by decide⟩
theorem cv_X_94_X : Cond.methodLink RX9 94 zy_X_requireFormat ∈ AW ∧ Cond.static zy_X_requireFormat ∈ AW ∧ Cond.initialized RX9 ∈ AW ∧ Cond.code zy_X_requireFormat zc_X_requireFormat 1 none ∈ AW ∧ (zy_X_requireFormat).cls = RX9 ∧ (zy_X_requireFormat).cls ≠ "java/lang/invoke/MethodHandle" ∧ (zy_X_requireFormat).cls ≠ "java/lang/invoke/VarHandle" ∧ (parseMethodDescriptor (zy_X_requireFormat).desc).map (fun d => d.parameters.length) = some 1 := ⟨aw_500, aw_501, aw_450, aw_502, rfl, by decide, by decide, by decide⟩
theorem fa_X_32_X : FA RX9 32 7 4 RX9 TX9 9 := ⟨uw_9, rfl, by decide, "PressSuite", Or.inl aw_503, Or.inl rfl⟩
theorem fa_X_46_X : FA RX9 46 7 6 RX9 TX9 9 := ⟨uw_9, rfl, by decide, "PressSuite", Or.inl aw_504, Or.inl rfl⟩
theorem fa_X_39_X : FA RX9 39 7 5 RX9 TX9 9 := ⟨uw_9, rfl, by decide, "PressSuite", Or.inl aw_505, Or.inl rfl⟩
theorem cv_X_97_P : Cond.methodLink RX9 97 zy_P_run ∈ AW ∧ Cond.instanceMethod zy_P_run ∈ AW ∧ Cond.selects (zy_P_run).cls zy_P_run zy_P_run ∈ AW ∧ Cond.initialized (zy_P_run).cls ∈ AW ∧ Cond.code zy_P_run zc_P_run 3 none ∈ AW ∧ (∃ (T : u_T) (N : Nat), zCl[3]? = some ((zy_P_run).cls, T, N)) ∧ (zy_P_run).cls ≠ "java/lang/invoke/MethodHandle" ∧ (zy_P_run).cls ≠ "java/lang/invoke/VarHandle" ∧ (parseMethodDescriptor (zy_P_run).desc).map (fun d => d.parameters.length) = some 1 := ⟨aw_506, aw_507, aw_508, aw_48, aw_461, ⟨_, _, rfl⟩, by decide, by decide, by decide⟩
theorem fa_X_61_X : FA RX9 61 7 8 RX9 TX9 9 := ⟨uw_9, rfl, by decide, "PressSuite", Or.inl aw_509, Or.inl rfl⟩
theorem fa_X_54_X : FA RX9 54 7 7 RX9 TX9 9 := ⟨uw_9, rfl, by decide, "PressSuite", Or.inl aw_510, Or.inl rfl⟩
theorem cv_X_101_ER : Cond.methodLink RX9 101 ⟨"PressSuite$Reader", "rewind", "()V"⟩ ∈ AW ∧ Cond.sameMethod "PressSuite$Reader" "PressSuite$Reader" "rewind" "()V" ∈ AW ∧ Cond.selects RX0 ⟨"PressSuite$Reader", "rewind", "()V"⟩ zy_D_rewind ∈ AW ∧ Cond.instanceMethod zy_D_rewind ∈ AW ∧ Cond.initialized (zy_D_rewind).cls ∈ AW ∧ Cond.code zy_D_rewind zc_D_rewind 1 none ∈ AW ∧ (∃ (T : u_T) (N : Nat), zCl[0]? = some (RX0, T, N)) ∧ zy_D_rewind = ⟨"PressSuite$Reader", "rewind", "()V"⟩ ∧ "PressSuite$Reader" ≠ "java/lang/invoke/MethodHandle" ∧ "PressSuite$Reader" ≠ "java/lang/invoke/VarHandle" ∧ (parseMethodDescriptor "()V").map (fun d => d.parameters.length) = some 0 := ⟨aw_511, aw_512, aw_513, aw_514, aw_166, aw_474, ⟨_, _, rfl⟩, rfl, by decide, by decide, by decide⟩
theorem cv_X_106_ER : Cond.methodLink RX9 106 ⟨"PressSuite$Reader", "readAll", "()V"⟩ ∈ AW ∧ Cond.sameMethod "PressSuite$Reader" "PressSuite$Reader" "readAll" "()V" ∈ AW ∧ Cond.selects RX0 ⟨"PressSuite$Reader", "readAll", "()V"⟩ zy_ER_readAll ∈ AW ∧ Cond.instanceMethod zy_ER_readAll ∈ AW ∧ Cond.initialized (zy_ER_readAll).cls ∈ AW ∧ Cond.code zy_ER_readAll zc_ER_readAll 2 none ∈ AW ∧ (∃ (T : u_T) (N : Nat), zCl[0]? = some (RX0, T, N)) ∧ Cond.declares ⟨"PressSuite$Reader", "readAll", "()V"⟩ ∈ NW ∧ "PressSuite$Reader" ≠ "java/lang/invoke/MethodHandle" ∧ "PressSuite$Reader" ≠ "java/lang/invoke/VarHandle" ∧ (parseMethodDescriptor "()V").map (fun d => d.parameters.length) = some 0 := ⟨aw_515, aw_516, aw_517, aw_518, aw_247, aw_463, ⟨_, _, rfl⟩, nw_11, by decide, by decide, by decide⟩
theorem cv_X_109_ER : Cond.methodLink RX9 109 ⟨"PressSuite$Reader", "refused", "()Z"⟩ ∈ AW ∧ Cond.sameMethod "PressSuite$Reader" "PressSuite$Reader" "refused" "()Z" ∈ AW ∧ Cond.selects RX0 ⟨"PressSuite$Reader", "refused", "()Z"⟩ zy_D_refused ∈ AW ∧ Cond.instanceMethod zy_D_refused ∈ AW ∧ Cond.initialized (zy_D_refused).cls ∈ AW ∧ Cond.code zy_D_refused zc_D_refused 1 (some .boolean) ∈ AW ∧ (∃ (T : u_T) (N : Nat), zCl[0]? = some (RX0, T, N)) ∧ zy_D_refused = ⟨"PressSuite$Reader", "refused", "()Z"⟩ ∧ "PressSuite$Reader" ≠ "java/lang/invoke/MethodHandle" ∧ "PressSuite$Reader" ≠ "java/lang/invoke/VarHandle" ∧ (parseMethodDescriptor "()Z").map (fun d => d.parameters.length) = some 0 := ⟨aw_519, aw_186, aw_261, aw_188, aw_166, aw_189, ⟨_, _, rfl⟩, rfl, by decide, by decide, by decide⟩
theorem fa_X_24_X : FA RX9 24 7 3 RX9 TX9 9 := ⟨uw_9, rfl, by decide, "PressSuite", Or.inl aw_520, Or.inl rfl⟩
theorem cv_X_116_R : Cond.methodLink RX9 116 zy_R_become ∈ AW ∧ Cond.instanceMethod zy_R_become ∈ AW ∧ Cond.selects (zy_R_become).cls zy_R_become zy_R_become ∈ AW ∧ Cond.initialized (zy_R_become).cls ∈ AW ∧ Cond.code zy_R_become zc_R_become 3 none ∈ AW ∧ (∃ (T : u_T) (N : Nat), zCl[4]? = some ((zy_R_become).cls, T, N)) ∧ (zy_R_become).cls ≠ "java/lang/invoke/MethodHandle" ∧ (zy_R_become).cls ≠ "java/lang/invoke/VarHandle" ∧ (parseMethodDescriptor (zy_R_become).desc).map (fun d => d.parameters.length) = some 1 := ⟨aw_521, aw_522, aw_523, aw_7, aw_460, ⟨_, _, rfl⟩, by decide, by decide, by decide⟩
theorem fa_X_113_ER : FA RX9 113 0 4 RX0 TX0 6 := ⟨uw_0, rfl, by decide, "PressSuite$Reader", Or.inr ⟨"PressSuite", nw_12⟩, Or.inl rfl⟩
theorem cv_X_101_SR : Cond.methodLink RX9 101 ⟨"PressSuite$Reader", "rewind", "()V"⟩ ∈ AW ∧ Cond.sameMethod "PressSuite$Reader" "PressSuite$Reader" "rewind" "()V" ∈ AW ∧ Cond.selects RX6 ⟨"PressSuite$Reader", "rewind", "()V"⟩ zy_D_rewind ∈ AW ∧ Cond.instanceMethod zy_D_rewind ∈ AW ∧ Cond.initialized (zy_D_rewind).cls ∈ AW ∧ Cond.code zy_D_rewind zc_D_rewind 1 none ∈ AW ∧ (∃ (T : u_T) (N : Nat), zCl[5]? = some (RX6, T, N)) ∧ zy_D_rewind = ⟨"PressSuite$Reader", "rewind", "()V"⟩ ∧ "PressSuite$Reader" ≠ "java/lang/invoke/MethodHandle" ∧ "PressSuite$Reader" ≠ "java/lang/invoke/VarHandle" ∧ (parseMethodDescriptor "()V").map (fun d => d.parameters.length) = some 0 := ⟨aw_511, aw_512, aw_524, aw_514, aw_166, aw_474, ⟨_, _, rfl⟩, rfl, by decide, by decide, by decide⟩
theorem cv_X_106_SR : Cond.methodLink RX9 106 ⟨"PressSuite$Reader", "readAll", "()V"⟩ ∈ AW ∧ Cond.sameMethod "PressSuite$Reader" "PressSuite$Reader" "readAll" "()V" ∈ AW ∧ Cond.selects RX6 ⟨"PressSuite$Reader", "readAll", "()V"⟩ zy_SR_readAll ∈ AW ∧ Cond.instanceMethod zy_SR_readAll ∈ AW ∧ Cond.initialized (zy_SR_readAll).cls ∈ AW ∧ Cond.code zy_SR_readAll zc_SR_readAll 3 none ∈ AW ∧ (∃ (T : u_T) (N : Nat), zCl[5]? = some (RX6, T, N)) ∧ Cond.declares ⟨"PressSuite$Reader", "readAll", "()V"⟩ ∈ NW ∧ "PressSuite$Reader" ≠ "java/lang/invoke/MethodHandle" ∧ "PressSuite$Reader" ≠ "java/lang/invoke/VarHandle" ∧ (parseMethodDescriptor "()V").map (fun d => d.parameters.length) = some 0 := ⟨aw_515, aw_516, aw_525, aw_526, aw_177, aw_462, ⟨_, _, rfl⟩, nw_11, by decide, by decide, by decide⟩
theorem cv_X_109_SR : Cond.methodLink RX9 109 ⟨"PressSuite$Reader", "refused", "()Z"⟩ ∈ AW ∧ Cond.sameMethod "PressSuite$Reader" "PressSuite$Reader" "refused" "()Z" ∈ AW ∧ Cond.selects RX6 ⟨"PressSuite$Reader", "refused", "()Z"⟩ zy_D_refused ∈ AW ∧ Cond.instanceMethod zy_D_refused ∈ AW ∧ Cond.initialized (zy_D_refused).cls ∈ AW ∧ Cond.code zy_D_refused zc_D_refused 1 (some .boolean) ∈ AW ∧ (∃ (T : u_T) (N : Nat), zCl[5]? = some (RX6, T, N)) ∧ zy_D_refused = ⟨"PressSuite$Reader", "refused", "()Z"⟩ ∧ "PressSuite$Reader" ≠ "java/lang/invoke/MethodHandle" ∧ "PressSuite$Reader" ≠ "java/lang/invoke/VarHandle" ∧ (parseMethodDescriptor "()Z").map (fun d => d.parameters.length) = some 0 := ⟨aw_519, aw_186, aw_187, aw_188, aw_166, aw_189, ⟨_, _, rfl⟩, rfl, by decide, by decide, by decide⟩
theorem fa_X_113_SR : FA RX9 113 5 4 RX6 TX6 5 := ⟨uw_6, rfl, by decide, "PressSuite$Reader", Or.inr ⟨"PressSuite", nw_12⟩, Or.inl rfl⟩
theorem fa_X_131_P : FA RX9 131 3 6 RX3 TX3 7 := ⟨uw_3, rfl, by decide, "PressSuite$Packer", Or.inr ⟨"PressSuite", nw_13⟩, Or.inl rfl⟩
theorem fa_X_128_P : FA RX9 128 3 5 RX3 TX3 7 := ⟨uw_3, rfl, by decide, "PressSuite$Packer", Or.inr ⟨"PressSuite", nw_14⟩, Or.inl rfl⟩
theorem cv_X_134_X : Cond.methodLink RX9 134 zy_X_crcStep ∈ AW ∧ Cond.static zy_X_crcStep ∈ AW ∧ Cond.initialized RX9 ∈ AW ∧ Cond.code zy_X_crcStep zc_X_crcStep 3 (some .int) ∈ AW ∧ (zy_X_crcStep).cls = RX9 ∧ (zy_X_crcStep).cls ≠ "java/lang/invoke/MethodHandle" ∧ (zy_X_crcStep).cls ≠ "java/lang/invoke/VarHandle" ∧ (parseMethodDescriptor (zy_X_crcStep).desc).map (fun d => d.parameters.length) = some 1 := ⟨aw_527, aw_528, aw_450, aw_475, rfl, by decide, by decide, by decide⟩
theorem cv_X_137_X : Cond.methodLink RX9 137 zy_X_mixLanes ∈ AW ∧ Cond.static zy_X_mixLanes ∈ AW ∧ Cond.initialized RX9 ∈ AW ∧ Cond.code zy_X_mixLanes zc_X_mixLanes 2 (some .int) ∈ AW ∧ (zy_X_mixLanes).cls = RX9 ∧ (zy_X_mixLanes).cls ≠ "java/lang/invoke/MethodHandle" ∧ (zy_X_mixLanes).cls ≠ "java/lang/invoke/VarHandle" ∧ (parseMethodDescriptor (zy_X_mixLanes).desc).map (fun d => d.parameters.length) = some 2 := ⟨aw_529, aw_530, aw_450, aw_476, rfl, by decide, by decide, by decide⟩
theorem cv_X_142_X : Cond.methodLink RX9 142 zy_X_mixRest ∈ AW ∧ Cond.static zy_X_mixRest ∈ AW ∧ Cond.initialized RX9 ∈ AW ∧ Cond.code zy_X_mixRest zc_X_mixRest 5 (some .int) ∈ AW ∧ (zy_X_mixRest).cls = RX9 ∧ (zy_X_mixRest).cls ≠ "java/lang/invoke/MethodHandle" ∧ (zy_X_mixRest).cls ≠ "java/lang/invoke/VarHandle" ∧ (parseMethodDescriptor (zy_X_mixRest).desc).map (fun d => d.parameters.length) = some 2 := ⟨aw_531, aw_532, aw_450, aw_477, rfl, by decide, by decide, by decide⟩
theorem cv_X_145_X : Cond.methodLink RX9 145 zy_X_finish ∈ AW ∧ Cond.static zy_X_finish ∈ AW ∧ Cond.initialized RX9 ∈ AW ∧ Cond.code zy_X_finish zc_X_finish 2 (some .int) ∈ AW ∧ (zy_X_finish).cls = RX9 ∧ (zy_X_finish).cls ≠ "java/lang/invoke/MethodHandle" ∧ (zy_X_finish).cls ≠ "java/lang/invoke/VarHandle" ∧ (parseMethodDescriptor (zy_X_finish).desc).map (fun d => d.parameters.length) = some 1 := ⟨aw_533, aw_534, aw_450, aw_478, rfl, by decide, by decide, by decide⟩
