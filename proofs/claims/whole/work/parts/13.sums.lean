set_option maxHeartbeats 4000000 in
set_option maxRecDepth 100000 in
theorem zl_X_crcStep_4 {k : GC} {l : Launch} {D : va_G} {cB cI cJ : ClassId} (F : GF k l { frames := 0, cells := 0, slots := 0, locals := 0 } zc_X_crcStep 3 RX9 D cB cI cJ) (i0 : Int32) : ∀ (n : Nat) (v1 : Int32) (v2 : Int32) (w1 : Int32) (w2 : Int32), zf_X_crcStep_L4  n v1 v2 = some (w1, w2) → G D 3 k 0 0 36 [(0, .int i0), (1, .int w1), (2, .int w2)] [] [] → G D 3 k 0 0 4 [(0, .int i0), (1, .int v1), (2, .int v2)] [] [] := by
  intro n
  induction n with
  | zero =>
    intro v1 v2 w1 w2 h
    rw [zf_X_crcStep_L4_0] at h
    cases h
  | succ n ih =>
    intro v1 v2 w1 w2 h hx
    have h := (zf_X_crcStep_L4_s  n v1 v2).symm.trans h
    refine G_iload_n F zd_X_crcStep_4 rfl (j := 2) rfl ?_
    refine G_bipush (v := (8 : Int32)) F zd_X_crcStep_5 (by decide) ?_
    refine G_icmp_ge F zd_X_crcStep_7 (tgt := 36) rfl (fun h0 => ?_) (fun h0 => ?_)
    · have h := iP h h0
      obtain ⟨q1, q2⟩ := inj2 h
      subst q1
      subst q2
      exact G_lv [0, 1, 2] rfl hx
    · have h := iN h h0
      refine G_iload_n F zd_X_crcStep_10 rfl (j := 1) rfl ?_
      refine G_iconst (v := (1 : Int32)) F zd_X_crcStep_11 (by decide) ?_
      refine G_iand F zd_X_crcStep_12 ?_
      refine G_iconst (v := (1 : Int32)) F zd_X_crcStep_13 (by decide) ?_
      obtain ⟨u3, hj29, h⟩ := bc1_s h
      have X29 : G D 3 k 0 0 29 [(0, .int i0), (1, .int v1), (2, .int v2)] [.int u3] [] := by
        refine G_istore_n F zd_X_crcStep_29 rfl (by decide) (L' := [(1, .int u3), (0, .int i0), (2, .int v2)]) rfl ?_
        obtain ⟨v4, ev4, h⟩ := bnd_s h
        refine G_iinc F zd_X_crcStep_30 (j := 2) rfl (w := (1 : Int32)) (by decide) ev4 (by decide) (L' := [(2, .int v4), (1, .int u3), (0, .int i0)]) rfl ?_
        refine G_goto F zd_X_crcStep_33 (tgt := 4) rfl ?_
        exact G_lv [2, 1, 0] rfl (ih _ _ _ _ h hx)
      have h := hj29
      refine G_icmp_ne F zd_X_crcStep_14 (tgt := 26) rfl (fun h0 => ?_) (fun h0 => ?_)
      · have h := iN h h0
        refine G_iload_n F zd_X_crcStep_26 rfl (j := 1) rfl ?_
        refine G_iconst (v := (1 : Int32)) F zd_X_crcStep_27 (by decide) ?_
        refine G_iushr F zd_X_crcStep_28 ?_
        have q1 := Option.some.inj h
        subst q1
        exact G_lv [0, 1, 2] rfl X29
      · have h := iP h h0
        refine G_iload_n F zd_X_crcStep_17 rfl (j := 1) rfl ?_
        refine G_iconst (v := (1 : Int32)) F zd_X_crcStep_18 (by decide) ?_
        refine G_iushr F zd_X_crcStep_19 ?_
        refine G_ldc (v := (-2097792136 : Int32)) F aw_441 zd_X_crcStep_20 ?_
        refine G_ixor F zd_X_crcStep_22 ?_
        refine G_goto F zd_X_crcStep_23 (tgt := 29) rfl ?_
        have q1 := Option.some.inj h
        subst q1
        exact G_lv [0, 1, 2] rfl X29
set_option maxHeartbeats 4000000 in
set_option maxRecDepth 100000 in
theorem zk_X_crcStep (l : Launch) (D : va_G) (cB cI cJ : ClassId) (i0 : Int32) (r : Int32) (h : zf_X_crcStep i0 = some r) : CoI l zy_X_crcStep zw_X_crcStep { frames := 0, cells := 0, slots := 0, locals := 0 } D cB cI cJ [.int i0] [] r [] := by
  unfold zf_X_crcStep at h
  refine CoI.ofG (cc := zc_X_crcStep) (maxL := 3) (own := RX9) (by decide) rfl rfl rfl trivial (Nat.le_of_ble_eq_true rfl) (L0 := [(0, .int i0)]) rfl (fun k F E => ?_)
  refine G_iload_n F zd_X_crcStep_0 rfl (j := 0) rfl ?_
  refine G_istore_n F zd_X_crcStep_1 rfl (by decide) (L' := [(1, .int i0), (0, .int i0)]) rfl ?_
  refine G_iconst (v := (0 : Int32)) F zd_X_crcStep_2 (by decide) ?_
  refine G_istore_n F zd_X_crcStep_3 rfl (by decide) (L' := [(2, .int (0 : Int32)), (1, .int i0), (0, .int i0)]) rfl ?_
  obtain ⟨x5, x6, hl4, h⟩ := bc2_s h
  refine G_lv [2, 1, 0] rfl (zl_X_crcStep_4 F i0 1000 i0 (0 : Int32) x5 x6 hl4 ?_)
  refine G_iload_n F zd_X_crcStep_36 rfl (j := 1) rfl ?_
  have q1 := Option.some.inj h
  subst q1
  exact E 37 _ zd_X_crcStep_37

set_option maxHeartbeats 4000000 in
set_option maxRecDepth 100000 in
theorem zk_X_turnLeft (l : Launch) (D : va_G) (cB cI cJ : ClassId) (i0 : Int32) (i1 : Int32) (r : Int32) (h : zf_X_turnLeft i0 i1 = some r) : CoI l zy_X_turnLeft zw_X_turnLeft { frames := 0, cells := 0, slots := 0, locals := 0 } D cB cI cJ [.int i0, .int i1] [] r [] := by
  unfold zf_X_turnLeft at h
  refine CoI.ofG (cc := zc_X_turnLeft) (maxL := 2) (own := RX9) (by decide) rfl rfl rfl trivial (Nat.le_of_ble_eq_true rfl) (L0 := [(0, .int i0), (1, .int i1)]) rfl (fun k F E => ?_)
  refine G_iload_n F zd_X_turnLeft_0 rfl (j := 0) rfl ?_
  refine G_iload_n F zd_X_turnLeft_1 rfl (j := 1) rfl ?_
  refine G_ishl F zd_X_turnLeft_2 ?_
  refine G_iload_n F zd_X_turnLeft_3 rfl (j := 0) rfl ?_
  refine G_bipush (v := (32 : Int32)) F zd_X_turnLeft_4 (by decide) ?_
  refine G_iload_n F zd_X_turnLeft_6 rfl (j := 1) rfl ?_
  refine G_isub F zd_X_turnLeft_7 ?_
  refine G_iushr F zd_X_turnLeft_8 ?_
  refine G_ior F zd_X_turnLeft_9 ?_
  have q1 := Option.some.inj h
  subst q1
  exact E 10 _ zd_X_turnLeft_10

set_option maxHeartbeats 4000000 in
set_option maxRecDepth 100000 in
theorem zl_X_lane_5 {k : GC} {l : Launch} {D : va_G} {cB cI cJ : ClassId} (F : GF k l { frames := 2, cells := 0, slots := 0, locals := 42 } zc_X_lane 5 RX9 D cB cI cJ) (rn : Int32) (rl : Nat) (rf : Nat → Int32) (i1 : Int32) (i2 : Int32) (ra : Nat) (rb : Nat) : ∀ (n : Nat) (v1 : Int32) (v2 : Int32) (w1 : Int32) (w2 : Int32), zf_X_lane_L5 rn rl rf i1 n v1 v2 = some (w1, w2) → G D 5 k 0 0 45 [(0, .ref ra), (1, .int i1), (2, .int i2), (3, .int w1), (4, .int w2)] [] [(ra, .inr (4, [.ref rb, .int rn])), (rb, .inl (cB, rl, .inl rf))] → G D 5 k 0 0 5 [(0, .ref ra), (1, .int i1), (2, .int i2), (3, .int v1), (4, .int v2)] [] [(ra, .inr (4, [.ref rb, .int rn])), (rb, .inl (cB, rl, .inl rf))] := by
  intro n
  induction n with
  | zero =>
    intro v1 v2 w1 w2 h
    rw [zf_X_lane_L5_0] at h
    cases h
  | succ n ih =>
    intro v1 v2 w1 w2 h hx
    have h := (zf_X_lane_L5_s rn rl rf i1 n v1 v2).symm.trans h
    refine G_iload F zd_X_lane_5 (j := 4) rfl ?_
    refine G_bipush (v := (16 : Int32)) F zd_X_lane_7 (by decide) ?_
    refine G_iadd F zd_X_lane_9 ?_
    refine G_aload_n F zd_X_lane_10 rfl (j := 0) rfl ?_
    refine G_get F fa_X_87_R (q := 0) zd_X_lane_11 rfl rfl ?_
    refine G_icmp_gt F zd_X_lane_14 (tgt := 45) rfl (fun h0 => ?_) (fun h0 => ?_)
    · have h := iP h h0
      obtain ⟨q1, q2⟩ := inj2 h
      subst q1
      subst q2
      exact G_lv [0, 1, 2, 3, 4] rfl hx
    · have h := iN h h0
      refine G_iload_n F zd_X_lane_17 rfl (j := 3) rfl ?_
      refine G_aload_n F zd_X_lane_18 rfl (j := 0) rfl ?_
      refine G_iload F zd_X_lane_19 (j := 4) rfl ?_
      refine G_iload_n F zd_X_lane_21 rfl (j := 1) rfl ?_
      refine G_iadd F zd_X_lane_22 ?_
      obtain ⟨v3, hc23, h⟩ := bc1_s h
      refine G_calliV0 F (zk_R_intAt l D cB cI cJ ra rb rn rl rf (v2 + i1) v3 hc23) (rest := [.int v1]) [0, 1] rfl rfl (q0 := 0) rfl cv_X_163_R rfl rfl ⟨Nat.le_of_ble_eq_true rfl, Nat.le_of_ble_eq_true rfl⟩ hf0 rfl (Nat.le_of_ble_eq_true rfl) zd_X_lane_23 rfl ?_
      refine G_ldc (v := (-2048144777 : Int32)) F aw_443 zd_X_lane_26 ?_
      refine G_imul F zd_X_lane_28 ?_
      refine G_iadd F zd_X_lane_29 ?_
      refine G_bipush (v := (13 : Int32)) F zd_X_lane_30 (by decide) ?_
      obtain ⟨v4, hc32, h⟩ := bc1_s h
      refine G_calliS0 F (zk_X_turnLeft l D cB cI cJ (v1 + (v3 * (-2048144777 : Int32))) (13 : Int32) v4 hc32) (rest := []) [] rfl rfl cv_X_159_X rfl rfl ⟨Nat.le_of_ble_eq_true rfl, Nat.le_of_ble_eq_true rfl⟩ hf0 rfl (Nat.le_of_ble_eq_true rfl) zd_X_lane_32 rfl ?_
      refine G_ldc (v := (-1640531535 : Int32)) F aw_442 zd_X_lane_35 ?_
      refine G_imul F zd_X_lane_37 ?_
      obtain ⟨v5, ev5, h⟩ := bnd_s h
      refine G_topi ev5 ?_
      refine G_istore_n F zd_X_lane_38 rfl (by decide) (L' := [(3, .int v5), (0, .ref ra), (1, .int i1), (2, .int i2), (4, .int v2)]) rfl ?_
      obtain ⟨v6, ev6, h⟩ := bnd_s h
      refine G_iinc F zd_X_lane_39 (j := 4) rfl (w := (16 : Int32)) (by decide) ev6 (by decide) (L' := [(4, .int v6), (3, .int v5), (0, .ref ra), (1, .int i1), (2, .int i2)]) rfl ?_
      refine G_goto F zd_X_lane_42 (tgt := 5) rfl ?_
      exact G_lv [2, 3, 4, 1, 0] rfl (ih _ _ _ _ h hx)
set_option maxHeartbeats 4000000 in
set_option maxRecDepth 100000 in
theorem zk_X_lane (l : Launch) (D : va_G) (cB cI cJ : ClassId) (ra : Nat) (rb : Nat) (rn : Int32) (rl : Nat) (rf : Nat → Int32) (i1 : Int32) (i2 : Int32) (r : Int32) (h : zf_X_lane rn rl rf i1 i2 = some r) : CoI l zy_X_lane zw_X_lane { frames := 2, cells := 0, slots := 0, locals := 42 } D cB cI cJ [.ref ra, .int i1, .int i2] [(ra, .inr (4, [.ref rb, .int rn])), (rb, .inl (cB, rl, .inl rf))] r [(ra, .inr (4, [.ref rb, .int rn])), (rb, .inl (cB, rl, .inl rf))] := by
  unfold zf_X_lane at h
  refine CoI.ofG (cc := zc_X_lane) (maxL := 5) (own := RX9) (by decide) rfl rfl rfl trivial (Nat.le_of_ble_eq_true rfl) (L0 := [(0, .ref ra), (1, .int i1), (2, .int i2)]) rfl (fun k F E => ?_)
  refine G_iload_n F zd_X_lane_0 rfl (j := 2) rfl ?_
  refine G_istore_n F zd_X_lane_1 rfl (by decide) (L' := [(3, .int i2), (0, .ref ra), (1, .int i1), (2, .int i2)]) rfl ?_
  refine G_iconst (v := (0 : Int32)) F zd_X_lane_2 (by decide) ?_
  refine G_istore F zd_X_lane_3 (by decide) (L' := [(4, .int (0 : Int32)), (3, .int i2), (0, .ref ra), (1, .int i1), (2, .int i2)]) rfl ?_
  obtain ⟨x7, x8, hl5, h⟩ := bc2_s h
  refine G_lv [2, 3, 4, 1, 0] rfl (zl_X_lane_5 F rn rl rf i1 i2 ra rb 1000 i2 (0 : Int32) x7 x8 hl5 ?_)
  refine G_iload_n F zd_X_lane_45 rfl (j := 3) rfl ?_
  have q1 := Option.some.inj h
  subst q1
  exact E 46 _ zd_X_lane_46

set_option maxHeartbeats 4000000 in
set_option maxRecDepth 100000 in
theorem zk_X_mixLanes (l : Launch) (D : va_G) (cB cI cJ : ClassId) (ra : Nat) (rb : Nat) (rn : Int32) (rl : Nat) (rf : Nat → Int32) (i1 : Int32) (r : Int32) (h : zf_X_mixLanes rn rl rf i1 = some r) : CoI l zy_X_mixLanes zw_X_mixLanes { frames := 3, cells := 0, slots := 0, locals := 66 } D cB cI cJ [.ref ra, .int i1] [(ra, .inr (4, [.ref rb, .int rn])), (rb, .inl (cB, rl, .inl rf))] r [(ra, .inr (4, [.ref rb, .int rn])), (rb, .inl (cB, rl, .inl rf))] := by
  unfold zf_X_mixLanes at h
  refine CoI.ofG (cc := zc_X_mixLanes) (maxL := 2) (own := RX9) (by decide) rfl rfl rfl trivial (Nat.le_of_ble_eq_true rfl) (L0 := [(0, .ref ra), (1, .int i1)]) rfl (fun k F E => ?_)
  refine G_aload_n F zd_X_mixLanes_0 rfl (j := 0) rfl ?_
  refine G_iconst (v := (0 : Int32)) F zd_X_mixLanes_1 (by decide) ?_
  refine G_iload_n F zd_X_mixLanes_2 rfl (j := 1) rfl ?_
  refine G_ldc (v := (-1640531535 : Int32)) F aw_442 zd_X_mixLanes_3 ?_
  refine G_iadd F zd_X_mixLanes_5 ?_
  refine G_ldc (v := (-2048144777 : Int32)) F aw_443 zd_X_mixLanes_6 ?_
  refine G_iadd F zd_X_mixLanes_8 ?_
  obtain ⟨v1, hc9, h⟩ := bc1_s h
  refine G_calliS0 F (zk_X_lane l D cB cI cJ ra rb rn rl rf (0 : Int32) ((i1 + (-1640531535 : Int32)) + (-2048144777 : Int32)) v1 hc9) (rest := []) [0, 1] rfl rfl cv_X_155_X rfl rfl ⟨Nat.le_of_ble_eq_true rfl, Nat.le_of_ble_eq_true rfl⟩ hf0 rfl (Nat.le_of_ble_eq_true rfl) zd_X_mixLanes_9 rfl ?_
  refine G_iconst (v := (1 : Int32)) F zd_X_mixLanes_12 (by decide) ?_
  obtain ⟨v2, hc13, h⟩ := bc1_s h
  refine G_calliS0 F (zk_X_turnLeft l D cB cI cJ v1 (1 : Int32) v2 hc13) (rest := []) [] rfl rfl cv_X_159_X rfl rfl ⟨Nat.le_of_ble_eq_true rfl, Nat.le_of_ble_eq_true rfl⟩ hf0 rfl (Nat.le_of_ble_eq_true rfl) zd_X_mixLanes_13 rfl ?_
  refine G_aload_n F zd_X_mixLanes_16 rfl (j := 0) rfl ?_
  refine G_iconst (v := (4 : Int32)) F zd_X_mixLanes_17 (by decide) ?_
  refine G_iload_n F zd_X_mixLanes_18 rfl (j := 1) rfl ?_
  refine G_ldc (v := (-2048144777 : Int32)) F aw_443 zd_X_mixLanes_19 ?_
  refine G_iadd F zd_X_mixLanes_21 ?_
  obtain ⟨v3, hc22, h⟩ := bc1_s h
  refine G_calliS0 F (zk_X_lane l D cB cI cJ ra rb rn rl rf (4 : Int32) (i1 + (-2048144777 : Int32)) v3 hc22) (rest := [.int v2]) [0, 1] rfl rfl cv_X_155_X rfl rfl ⟨Nat.le_of_ble_eq_true rfl, Nat.le_of_ble_eq_true rfl⟩ hf0 rfl (Nat.le_of_ble_eq_true rfl) zd_X_mixLanes_22 rfl ?_
  refine G_bipush (v := (7 : Int32)) F zd_X_mixLanes_25 (by decide) ?_
  obtain ⟨v4, hc27, h⟩ := bc1_s h
  refine G_calliS0 F (zk_X_turnLeft l D cB cI cJ v3 (7 : Int32) v4 hc27) (rest := [.int v2]) [] rfl rfl cv_X_159_X rfl rfl ⟨Nat.le_of_ble_eq_true rfl, Nat.le_of_ble_eq_true rfl⟩ hf0 rfl (Nat.le_of_ble_eq_true rfl) zd_X_mixLanes_27 rfl ?_
  refine G_iadd F zd_X_mixLanes_30 ?_
  refine G_aload_n F zd_X_mixLanes_31 rfl (j := 0) rfl ?_
  refine G_bipush (v := (8 : Int32)) F zd_X_mixLanes_32 (by decide) ?_
  refine G_iload_n F zd_X_mixLanes_34 rfl (j := 1) rfl ?_
  obtain ⟨v5, hc35, h⟩ := bc1_s h
  refine G_calliS0 F (zk_X_lane l D cB cI cJ ra rb rn rl rf (8 : Int32) i1 v5 hc35) (rest := [.int (v2 + v4)]) [0, 1] rfl rfl cv_X_155_X rfl rfl ⟨Nat.le_of_ble_eq_true rfl, Nat.le_of_ble_eq_true rfl⟩ hf0 rfl (Nat.le_of_ble_eq_true rfl) zd_X_mixLanes_35 rfl ?_
  refine G_bipush (v := (12 : Int32)) F zd_X_mixLanes_38 (by decide) ?_
  obtain ⟨v6, hc40, h⟩ := bc1_s h
  refine G_calliS0 F (zk_X_turnLeft l D cB cI cJ v5 (12 : Int32) v6 hc40) (rest := [.int (v2 + v4)]) [] rfl rfl cv_X_159_X rfl rfl ⟨Nat.le_of_ble_eq_true rfl, Nat.le_of_ble_eq_true rfl⟩ hf0 rfl (Nat.le_of_ble_eq_true rfl) zd_X_mixLanes_40 rfl ?_
  refine G_iadd F zd_X_mixLanes_43 ?_
  refine G_aload_n F zd_X_mixLanes_44 rfl (j := 0) rfl ?_
  refine G_bipush (v := (12 : Int32)) F zd_X_mixLanes_45 (by decide) ?_
  refine G_iload_n F zd_X_mixLanes_47 rfl (j := 1) rfl ?_
  refine G_ldc (v := (-1640531535 : Int32)) F aw_442 zd_X_mixLanes_48 ?_
  refine G_isub F zd_X_mixLanes_50 ?_
  obtain ⟨v7, hc51, h⟩ := bc1_s h
  refine G_calliS0 F (zk_X_lane l D cB cI cJ ra rb rn rl rf (12 : Int32) (i1 - (-1640531535 : Int32)) v7 hc51) (rest := [.int ((v2 + v4) + v6)]) [0, 1] rfl rfl cv_X_155_X rfl rfl ⟨Nat.le_of_ble_eq_true rfl, Nat.le_of_ble_eq_true rfl⟩ hf0 rfl (Nat.le_of_ble_eq_true rfl) zd_X_mixLanes_51 rfl ?_
  refine G_bipush (v := (18 : Int32)) F zd_X_mixLanes_54 (by decide) ?_
  obtain ⟨v8, hc56, h⟩ := bc1_s h
  refine G_calliS0 F (zk_X_turnLeft l D cB cI cJ v7 (18 : Int32) v8 hc56) (rest := [.int ((v2 + v4) + v6)]) [] rfl rfl cv_X_159_X rfl rfl ⟨Nat.le_of_ble_eq_true rfl, Nat.le_of_ble_eq_true rfl⟩ hf0 rfl (Nat.le_of_ble_eq_true rfl) zd_X_mixLanes_56 rfl ?_
  refine G_iadd F zd_X_mixLanes_59 ?_
  have q1 := Option.some.inj h
  subst q1
  exact E 60 _ zd_X_mixLanes_60

set_option maxHeartbeats 4000000 in
set_option maxRecDepth 100000 in
theorem zl_X_mixRest_19 {k : GC} {l : Launch} {D : va_G} {cB cI cJ : ClassId} (F : GF k l { frames := 2, cells := 0, slots := 0, locals := 42 } zc_X_mixRest 5 RX9 D cB cI cJ) (rn : Int32) (rl : Nat) (rf : Nat → Int32) (i1 : Int32) (ra : Nat) (rb : Nat) (v1 : Int32) : ∀ (n : Nat) (v3 : Int32) (v4 : Int32) (w3 : Int32) (w4 : Int32), zf_X_mixRest_L19 rn rl rf v1 n v3 v4 = some (w3, w4) → G D 5 k 0 0 51 [(0, .ref ra), (1, .int i1), (2, .int w3), (3, .int v1), (4, .int w4)] [] [(ra, .inr (4, [.ref rb, .int rn])), (rb, .inl (cB, rl, .inl rf))] → G D 5 k 0 0 19 [(0, .ref ra), (1, .int i1), (2, .int v3), (3, .int v1), (4, .int v4)] [] [(ra, .inr (4, [.ref rb, .int rn])), (rb, .inl (cB, rl, .inl rf))] := by
  intro n
  induction n with
  | zero =>
    intro v3 v4 w3 w4 h
    rw [zf_X_mixRest_L19_0] at h
    cases h
  | succ n ih =>
    intro v3 v4 w3 w4 h hx
    have h := (zf_X_mixRest_L19_s rn rl rf v1 n v3 v4).symm.trans h
    refine G_iload F zd_X_mixRest_19 (j := 4) rfl ?_
    refine G_iload_n F zd_X_mixRest_21 rfl (j := 3) rfl ?_
    refine G_icmp_ge F zd_X_mixRest_22 (tgt := 51) rfl (fun h0 => ?_) (fun h0 => ?_)
    · have h := iP h h0
      obtain ⟨q1, q2⟩ := inj2 h
      subst q1
      subst q2
      exact G_lv [0, 1, 2, 3, 4] rfl hx
    · have h := iN h h0
      refine G_iload_n F zd_X_mixRest_25 rfl (j := 2) rfl ?_
      refine G_aload_n F zd_X_mixRest_26 rfl (j := 0) rfl ?_
      refine G_iload F zd_X_mixRest_27 (j := 4) rfl ?_
      obtain ⟨v5, hc29, h⟩ := bc1_s h
      refine G_calliV0 F (zk_R_intAt l D cB cI cJ ra rb rn rl rf v4 v5 hc29) (rest := [.int v3]) [0, 1] rfl rfl (q0 := 0) rfl cv_X_163_R rfl rfl ⟨Nat.le_of_ble_eq_true rfl, Nat.le_of_ble_eq_true rfl⟩ hf0 rfl (Nat.le_of_ble_eq_true rfl) zd_X_mixRest_29 rfl ?_
      refine G_ldc (v := (-1028477379 : Int32)) F aw_455 zd_X_mixRest_32 ?_
      refine G_imul F zd_X_mixRest_34 ?_
      refine G_iadd F zd_X_mixRest_35 ?_
      refine G_bipush (v := (17 : Int32)) F zd_X_mixRest_36 (by decide) ?_
      obtain ⟨v6, hc38, h⟩ := bc1_s h
      refine G_calliS0 F (zk_X_turnLeft l D cB cI cJ (v3 + (v5 * (-1028477379 : Int32))) (17 : Int32) v6 hc38) (rest := []) [] rfl rfl cv_X_159_X rfl rfl ⟨Nat.le_of_ble_eq_true rfl, Nat.le_of_ble_eq_true rfl⟩ hf0 rfl (Nat.le_of_ble_eq_true rfl) zd_X_mixRest_38 rfl ?_
      refine G_ldc (v := (668265263 : Int32)) F aw_456 zd_X_mixRest_41 ?_
      refine G_imul F zd_X_mixRest_43 ?_
      obtain ⟨v7, ev7, h⟩ := bnd_s h
      refine G_topi ev7 ?_
      refine G_istore_n F zd_X_mixRest_44 rfl (by decide) (L' := [(2, .int v7), (0, .ref ra), (1, .int i1), (3, .int v1), (4, .int v4)]) rfl ?_
      obtain ⟨v8, ev8, h⟩ := bnd_s h
      refine G_iinc F zd_X_mixRest_45 (j := 4) rfl (w := (4 : Int32)) (by decide) ev8 (by decide) (L' := [(4, .int v8), (2, .int v7), (0, .ref ra), (1, .int i1), (3, .int v1)]) rfl ?_
      refine G_goto F zd_X_mixRest_48 (tgt := 19) rfl ?_
      exact G_lv [2, 3, 1, 4, 0] rfl (ih _ _ _ _ h hx)
set_option maxHeartbeats 4000000 in
set_option maxRecDepth 100000 in
theorem zl_X_mixRest_54 {k : GC} {l : Launch} {D : va_G} {cB cI cJ : ClassId} (F : GF k l { frames := 2, cells := 0, slots := 0, locals := 42 } zc_X_mixRest 5 RX9 D cB cI cJ) (rn : Int32) (rl : Nat) (rf : Nat → Int32) (i1 : Int32) (ra : Nat) (rb : Nat) (v1 : Int32) : ∀ (n : Nat) (v11 : Int32) (v12 : Int32) (w11 : Int32) (w12 : Int32), zf_X_mixRest_L54 rn rl rf n v11 v12 = some (w11, w12) → G D 5 k 0 0 89 [(0, .ref ra), (1, .int i1), (2, .int w11), (3, .int v1), (4, .int w12)] [] [(ra, .inr (4, [.ref rb, .int rn])), (rb, .inl (cB, rl, .inl rf))] → G D 5 k 0 0 54 [(0, .ref ra), (1, .int i1), (2, .int v11), (3, .int v1), (4, .int v12)] [] [(ra, .inr (4, [.ref rb, .int rn])), (rb, .inl (cB, rl, .inl rf))] := by
  intro n
  induction n with
  | zero =>
    intro v11 v12 w11 w12 h
    rw [zf_X_mixRest_L54_0] at h
    cases h
  | succ n ih =>
    intro v11 v12 w11 w12 h hx
    have h := (zf_X_mixRest_L54_s rn rl rf n v11 v12).symm.trans h
    refine G_iload F zd_X_mixRest_54 (j := 4) rfl ?_
    refine G_aload_n F zd_X_mixRest_56 rfl (j := 0) rfl ?_
    refine G_get F fa_X_87_R (q := 0) zd_X_mixRest_57 rfl rfl ?_
    refine G_icmp_ge F zd_X_mixRest_60 (tgt := 89) rfl (fun h0 => ?_) (fun h0 => ?_)
    · have h := iP h h0
      obtain ⟨q1, q2⟩ := inj2 h
      subst q1
      subst q2
      exact G_lv [0, 1, 2, 3, 4] rfl hx
    · have h := iN h h0
      refine G_iload_n F zd_X_mixRest_63 rfl (j := 2) rfl ?_
      refine G_aload_n F zd_X_mixRest_64 rfl (j := 0) rfl ?_
      refine G_iload F zd_X_mixRest_65 (j := 4) rfl ?_
      obtain ⟨v13, hc67, h⟩ := bc1_s h
      refine G_calliV0 F (zk_R_byteAt l D cB cI cJ ra rb rn rl rf v12 v13 hc67) (rest := [.int v11]) [0, 1] rfl rfl (q0 := 0) rfl cv_X_122_R rfl rfl ⟨Nat.le_of_ble_eq_true rfl, Nat.le_of_ble_eq_true rfl⟩ hf0 rfl (Nat.le_of_ble_eq_true rfl) zd_X_mixRest_67 rfl ?_
      refine G_ldc (v := (374761393 : Int32)) F aw_458 zd_X_mixRest_70 ?_
      refine G_imul F zd_X_mixRest_72 ?_
      refine G_iadd F zd_X_mixRest_73 ?_
      refine G_bipush (v := (11 : Int32)) F zd_X_mixRest_74 (by decide) ?_
      obtain ⟨v14, hc76, h⟩ := bc1_s h
      refine G_calliS0 F (zk_X_turnLeft l D cB cI cJ (v11 + (v13 * (374761393 : Int32))) (11 : Int32) v14 hc76) (rest := []) [] rfl rfl cv_X_159_X rfl rfl ⟨Nat.le_of_ble_eq_true rfl, Nat.le_of_ble_eq_true rfl⟩ hf0 rfl (Nat.le_of_ble_eq_true rfl) zd_X_mixRest_76 rfl ?_
      refine G_ldc (v := (-1640531535 : Int32)) F aw_442 zd_X_mixRest_79 ?_
      refine G_imul F zd_X_mixRest_81 ?_
      obtain ⟨v15, ev15, h⟩ := bnd_s h
      refine G_topi ev15 ?_
      refine G_istore_n F zd_X_mixRest_82 rfl (by decide) (L' := [(2, .int v15), (0, .ref ra), (1, .int i1), (3, .int v1), (4, .int v12)]) rfl ?_
      obtain ⟨v16, ev16, h⟩ := bnd_s h
      refine G_iinc F zd_X_mixRest_83 (j := 4) rfl (w := (1 : Int32)) (by decide) ev16 (by decide) (L' := [(4, .int v16), (2, .int v15), (0, .ref ra), (1, .int i1), (3, .int v1)]) rfl ?_
      refine G_goto F zd_X_mixRest_86 (tgt := 54) rfl ?_
      exact G_lv [2, 3, 1, 4, 0] rfl (ih _ _ _ _ h hx)
set_option maxHeartbeats 4000000 in
set_option maxRecDepth 100000 in
theorem zk_X_mixRest (l : Launch) (D : va_G) (cB cI cJ : ClassId) (ra : Nat) (rb : Nat) (rn : Int32) (rl : Nat) (rf : Nat → Int32) (i1 : Int32) (r : Int32) (h : zf_X_mixRest rn rl rf i1 = some r) : CoI l zy_X_mixRest zw_X_mixRest { frames := 2, cells := 0, slots := 0, locals := 42 } D cB cI cJ [.ref ra, .int i1] [(ra, .inr (4, [.ref rb, .int rn])), (rb, .inl (cB, rl, .inl rf))] r [(ra, .inr (4, [.ref rb, .int rn])), (rb, .inl (cB, rl, .inl rf))] := by
  unfold zf_X_mixRest at h
  refine CoI.ofG (cc := zc_X_mixRest) (maxL := 5) (own := RX9) (by decide) rfl rfl rfl trivial (Nat.le_of_ble_eq_true rfl) (L0 := [(0, .ref ra), (1, .int i1)]) rfl (fun k F E => ?_)
  refine G_iload_n F zd_X_mixRest_0 rfl (j := 1) rfl ?_
  refine G_istore_n F zd_X_mixRest_1 rfl (by decide) (L' := [(2, .int i1), (0, .ref ra), (1, .int i1)]) rfl ?_
  refine G_aload_n F zd_X_mixRest_2 rfl (j := 1) rfl ?_
  refine G_get F fa_X_87_R (q := 0) zd_X_mixRest_3 rfl rfl ?_
  refine G_bipush (v := (-4 : Int32)) F zd_X_mixRest_6 (by decide) ?_
  refine G_iand F zd_X_mixRest_8 ?_
  obtain ⟨v1, ev1, h⟩ := bnd_s h
  refine G_topi ev1 ?_
  refine G_istore_n F zd_X_mixRest_9 rfl (by decide) (L' := [(3, .int v1), (2, .int i1), (0, .ref ra), (1, .int i1)]) rfl ?_
  refine G_aload_n F zd_X_mixRest_10 rfl (j := 2) rfl ?_
  refine G_get F fa_X_87_R (q := 0) zd_X_mixRest_11 rfl rfl ?_
  refine G_bipush (v := (-16 : Int32)) F zd_X_mixRest_14 (by decide) ?_
  refine G_iand F zd_X_mixRest_16 ?_
  obtain ⟨v2, ev2, h⟩ := bnd_s h
  refine G_topi ev2 ?_
  refine G_istore F zd_X_mixRest_17 (by decide) (L' := [(4, .int v2), (3, .int v1), (2, .int i1), (0, .ref ra), (1, .int i1)]) rfl ?_
  obtain ⟨x9, x10, hl19, h⟩ := bc2_s h
  refine G_lv [3, 4, 2, 1, 0] rfl (zl_X_mixRest_19 F rn rl rf i1 ra rb v1 1000 i1 v2 x9 x10 hl19 ?_)
  refine G_iload_n F zd_X_mixRest_51 rfl (j := 3) rfl ?_
  refine G_istore F zd_X_mixRest_52 (by decide) (L' := [(4, .int v1), (0, .ref ra), (1, .int i1), (2, .int x9), (3, .int v1)]) rfl ?_
  obtain ⟨x17, x18, hl54, h⟩ := bc2_s h
  refine G_lv [1, 2, 3, 4, 0] rfl (zl_X_mixRest_54 F rn rl rf i1 ra rb v1 1000 x9 v1 x17 x18 hl54 ?_)
  refine G_iload_n F zd_X_mixRest_89 rfl (j := 2) rfl ?_
  have q1 := Option.some.inj h
  subst q1
  exact E 90 _ zd_X_mixRest_90

set_option maxHeartbeats 4000000 in
set_option maxRecDepth 100000 in
theorem zk_X_finish (l : Launch) (D : va_G) (cB cI cJ : ClassId) (i0 : Int32) (r : Int32) (h : zf_X_finish i0 = some r) : CoI l zy_X_finish zw_X_finish { frames := 0, cells := 0, slots := 0, locals := 0 } D cB cI cJ [.int i0] [] r [] := by
  unfold zf_X_finish at h
  refine CoI.ofG (cc := zc_X_finish) (maxL := 2) (own := RX9) (by decide) rfl rfl rfl trivial (Nat.le_of_ble_eq_true rfl) (L0 := [(0, .int i0)]) rfl (fun k F E => ?_)
  refine G_iload_n F zd_X_finish_0 rfl (j := 0) rfl ?_
  refine G_istore_n F zd_X_finish_1 rfl (by decide) (L' := [(1, .int i0), (0, .int i0)]) rfl ?_
  refine G_iload_n F zd_X_finish_2 rfl (j := 0) rfl ?_
  refine G_iload_n F zd_X_finish_3 rfl (j := 0) rfl ?_
  refine G_bipush (v := (15 : Int32)) F zd_X_finish_4 (by decide) ?_
  refine G_iushr F zd_X_finish_6 ?_
  refine G_ixor F zd_X_finish_7 ?_
  obtain ⟨v1, ev1, h⟩ := bnd_s h
  refine G_topi ev1 ?_
  refine G_istore_n F zd_X_finish_8 rfl (by decide) (L' := [(1, .int v1), (0, .int i0)]) rfl ?_
  refine G_iload_n F zd_X_finish_9 rfl (j := 0) rfl ?_
  refine G_ldc (v := (-2048144777 : Int32)) F aw_443 zd_X_finish_10 ?_
  refine G_imul F zd_X_finish_12 ?_
  obtain ⟨v2, ev2, h⟩ := bnd_s h
  refine G_topi ev2 ?_
  refine G_istore_n F zd_X_finish_13 rfl (by decide) (L' := [(1, .int v2), (0, .int i0)]) rfl ?_
  refine G_iload_n F zd_X_finish_14 rfl (j := 0) rfl ?_
  refine G_iload_n F zd_X_finish_15 rfl (j := 0) rfl ?_
  refine G_bipush (v := (13 : Int32)) F zd_X_finish_16 (by decide) ?_
  refine G_iushr F zd_X_finish_18 ?_
  refine G_ixor F zd_X_finish_19 ?_
  obtain ⟨v3, ev3, h⟩ := bnd_s h
  refine G_topi ev3 ?_
  refine G_istore_n F zd_X_finish_20 rfl (by decide) (L' := [(1, .int v3), (0, .int i0)]) rfl ?_
  refine G_iload_n F zd_X_finish_21 rfl (j := 0) rfl ?_
  refine G_ldc (v := (-1028477379 : Int32)) F aw_455 zd_X_finish_22 ?_
  refine G_imul F zd_X_finish_24 ?_
  obtain ⟨v4, ev4, h⟩ := bnd_s h
  refine G_topi ev4 ?_
  refine G_istore_n F zd_X_finish_25 rfl (by decide) (L' := [(1, .int v4), (0, .int i0)]) rfl ?_
  refine G_iload_n F zd_X_finish_26 rfl (j := 0) rfl ?_
  refine G_iload_n F zd_X_finish_27 rfl (j := 0) rfl ?_
  refine G_bipush (v := (16 : Int32)) F zd_X_finish_28 (by decide) ?_
  refine G_iushr F zd_X_finish_30 ?_
  refine G_ixor F zd_X_finish_31 ?_
  obtain ⟨v5, ev5, h⟩ := bnd_s h
  refine G_topi ev5 ?_
  refine G_istore_n F zd_X_finish_32 rfl (by decide) (L' := [(1, .int v5), (0, .int i0)]) rfl ?_
  refine G_iload_n F zd_X_finish_33 rfl (j := 0) rfl ?_
  have q1 := Option.some.inj h
  subst q1
  exact E 34 _ zd_X_finish_34

