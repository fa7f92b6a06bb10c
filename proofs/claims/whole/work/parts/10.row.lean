set_option maxHeartbeats 4000000 in
set_option maxRecDepth 100000 in
theorem zk_R_room (l : Launch) (D : va_G) (cB cI cJ : ClassId) (ra : Nat) (rb : Nat) (rn : Int32) (rl : Nat) (rf : Nat → Int32) (r : Int32) (h : zf_R_room rn rl = some r) : CoI l zy_R_room zw_R_room { frames := 0, cells := 0, slots := 0, locals := 0 } D cB cI cJ [.ref ra] [(ra, .inr (4, [.ref rb, .int rn])), (rb, .inl (cB, rl, .inl rf))] r [(ra, .inr (4, [.ref rb, .int rn])), (rb, .inl (cB, rl, .inl rf))] := by
  unfold zf_R_room at h
  refine CoI.ofG (cc := zc_R_room) (maxL := 1) (own := RX5) (by decide) rfl rfl rfl trivial (Nat.le_of_ble_eq_true rfl) (L0 := [(0, .ref ra)]) rfl (fun k F E => ?_)
  refine G_aload_n F zd_R_room_0 rfl (j := 0) rfl ?_
  refine G_get F fa_R_7_R (q := 0) zd_R_room_1 rfl rfl ?_
  refine G_alenB F zd_R_room_4 (q := 1) rfl ?_
  refine G_aload_n F zd_R_room_5 rfl (j := 0) rfl ?_
  refine G_get F fa_R_13_R (q := 0) zd_R_room_6 rfl rfl ?_
  refine G_isub F zd_R_room_9 ?_
  have q1 := Option.some.inj h
  subst q1
  exact E 10 _ zd_R_room_10

set_option maxHeartbeats 4000000 in
set_option maxRecDepth 100000 in
theorem zk_R_add (l : Launch) (D : va_G) (cB cI cJ : ClassId) (ra : Nat) (rb : Nat) (rn : Int32) (rl : Nat) (rf : Nat → Int32) (i1 : Int32) (rn' : Int32) (rf' : Nat → Int32) (h : zf_R_add rn rl rf i1 = some (rn', rf')) : CoV l zy_R_add zw_R_add { frames := 0, cells := 0, slots := 0, locals := 0 } D cB cI cJ [.ref ra, .int i1] [(ra, .inr (4, [.ref rb, .int rn])), (rb, .inl (cB, rl, .inl rf))] [(ra, .inr (4, [.ref rb, .int rn'])), (rb, .inl (cB, rl, .inl rf'))] := by
  unfold zf_R_add at h
  refine CoV.ofG (cc := zc_R_add) (maxL := 2) (own := RX5) (by decide) rfl rfl rfl trivial (Nat.le_of_ble_eq_true rfl) (L0 := [(0, .ref ra), (1, .int i1)]) rfl (fun k F E => ?_)
  refine G_aload_n F zd_R_add_0 rfl (j := 0) rfl ?_
  refine G_get F fa_R_13_R (q := 0) zd_R_add_1 rfl rfl ?_
  refine G_if_lt F zd_R_add_4 (tgt := 40) rfl (fun h0 => ?_) (fun h0 => ?_)
  · have h := iP h h0
    obtain ⟨q1, q2⟩ := inj2 h
    subst q1
    subst q2
    exact E 40 _ zd_R_add_40
  · have h := iN h h0
    refine G_aload_n F zd_R_add_7 rfl (j := 0) rfl ?_
    refine G_get F fa_R_13_R (q := 0) zd_R_add_8 rfl rfl ?_
    refine G_aload_n F zd_R_add_11 rfl (j := 0) rfl ?_
    refine G_get F fa_R_7_R (q := 0) zd_R_add_12 rfl rfl ?_
    refine G_alenB F zd_R_add_15 (q := 1) rfl ?_
    refine G_icmp_ge F zd_R_add_16 (tgt := 40) rfl (fun h0 => ?_) (fun h0 => ?_)
    · have h := iP h h0
      obtain ⟨q1, q2⟩ := inj2 h
      subst q1
      subst q2
      exact E 40 _ zd_R_add_40
    · have h := iN h h0
      refine G_aload_n F zd_R_add_19 rfl (j := 0) rfl ?_
      refine G_get F fa_R_7_R (q := 0) zd_R_add_20 rfl rfl ?_
      refine G_aload_n F zd_R_add_23 rfl (j := 0) rfl ?_
      refine G_get F fa_R_13_R (q := 0) zd_R_add_24 rfl rfl ?_
      refine G_iload_n F zd_R_add_27 rfl (j := 1) rfl ?_
      refine G_i2b F zd_R_add_28 ?_
      obtain ⟨h0, h⟩ := gd_s h
      obtain ⟨v1, ev1, h⟩ := bnd_s h
      refine G_bastore F zd_R_add_29 (q := 1) rfl h0 ev1 (ws' := [(ra, .inr (4, [.ref rb, .int rn])), (rb, .inl (cB, rl, .inl v1))]) rfl ?_
      refine G_aload_n F zd_R_add_30 rfl (j := 0) rfl ?_
      refine G_dup F zd_R_add_31 rfl ?_
      refine G_get F fa_R_13_R (q := 0) zd_R_add_32 rfl rfl ?_
      refine G_iconst (v := (1 : Int32)) F zd_R_add_35 (by decide) ?_
      refine G_iadd F zd_R_add_36 ?_
      obtain ⟨v2, ev2, h⟩ := bnd_s h
      refine G_topi ev2 ?_
      refine G_put F fp_R_13_R (q := 0) zd_R_add_37 rfl (Nat.le_of_ble_eq_true rfl) (ws' := [(ra, .inr (4, [.ref rb, .int v2])), (rb, .inl (cB, rl, .inl v1))]) rfl ?_
      obtain ⟨q1, q2⟩ := inj2 h
      subst q1
      subst q2
      exact E 40 _ zd_R_add_40

set_option maxHeartbeats 4000000 in
set_option maxRecDepth 100000 in
theorem zk_R_clear (l : Launch) (D : va_G) (cB cI cJ : ClassId) (ra : Nat) (rb : Nat) (rn : Int32) (rl : Nat) (rf : Nat → Int32) (rn' : Int32) (h : zf_R_clear  = some rn') : CoV l zy_R_clear zw_R_clear { frames := 0, cells := 0, slots := 0, locals := 0 } D cB cI cJ [.ref ra] [(ra, .inr (4, [.ref rb, .int rn])), (rb, .inl (cB, rl, .inl rf))] [(ra, .inr (4, [.ref rb, .int rn'])), (rb, .inl (cB, rl, .inl rf))] := by
  unfold zf_R_clear at h
  refine CoV.ofG (cc := zc_R_clear) (maxL := 1) (own := RX5) (by decide) rfl rfl rfl trivial (Nat.le_of_ble_eq_true rfl) (L0 := [(0, .ref ra)]) rfl (fun k F E => ?_)
  refine G_aload_n F zd_R_clear_0 rfl (j := 0) rfl ?_
  refine G_iconst (v := (0 : Int32)) F zd_R_clear_1 (by decide) ?_
  refine G_put F fp_R_13_R (q := 0) zd_R_clear_2 rfl (Nat.le_of_ble_eq_true rfl) (ws' := [(ra, .inr (4, [.ref rb, .int (0 : Int32)])), (rb, .inl (cB, rl, .inl rf))]) rfl ?_
  have q1 := Option.some.inj h
  subst q1
  exact E 5 _ zd_R_clear_5

set_option maxHeartbeats 4000000 in
set_option maxRecDepth 100000 in
theorem zk_R_byteAt (l : Launch) (D : va_G) (cB cI cJ : ClassId) (ra : Nat) (rb : Nat) (rn : Int32) (rl : Nat) (rf : Nat → Int32) (i1 : Int32) (r : Int32) (h : zf_R_byteAt rn rl rf i1 = some r) : CoI l zy_R_byteAt zw_R_byteAt { frames := 0, cells := 0, slots := 0, locals := 0 } D cB cI cJ [.ref ra, .int i1] [(ra, .inr (4, [.ref rb, .int rn])), (rb, .inl (cB, rl, .inl rf))] r [(ra, .inr (4, [.ref rb, .int rn])), (rb, .inl (cB, rl, .inl rf))] := by
  unfold zf_R_byteAt at h
  refine CoI.ofG (cc := zc_R_byteAt) (maxL := 2) (own := RX5) (by decide) rfl rfl rfl trivial (Nat.le_of_ble_eq_true rfl) (L0 := [(0, .ref ra), (1, .int i1)]) rfl (fun k F E => ?_)
  refine G_iload_n F zd_R_byteAt_0 rfl (j := 1) rfl ?_
  refine G_if_lt F zd_R_byteAt_1 (tgt := 34) rfl (fun h0 => ?_) (fun h0 => ?_)
  · have h := iP h h0
    refine G_iconst (v := (0 : Int32)) F zd_R_byteAt_34 (by decide) ?_
    have q1 := Option.some.inj h
    subst q1
    exact E 35 _ zd_R_byteAt_35
  · have h := iN h h0
    refine G_iload_n F zd_R_byteAt_4 rfl (j := 1) rfl ?_
    refine G_aload_n F zd_R_byteAt_5 rfl (j := 0) rfl ?_
    refine G_get F fa_R_13_R (q := 0) zd_R_byteAt_6 rfl rfl ?_
    refine G_icmp_ge F zd_R_byteAt_9 (tgt := 34) rfl (fun h0 => ?_) (fun h0 => ?_)
    · have h := iP h h0
      refine G_iconst (v := (0 : Int32)) F zd_R_byteAt_34 (by decide) ?_
      have q1 := Option.some.inj h
      subst q1
      exact E 35 _ zd_R_byteAt_35
    · have h := iN h h0
      refine G_iload_n F zd_R_byteAt_12 rfl (j := 1) rfl ?_
      refine G_aload_n F zd_R_byteAt_13 rfl (j := 0) rfl ?_
      refine G_get F fa_R_7_R (q := 0) zd_R_byteAt_14 rfl rfl ?_
      refine G_alenB F zd_R_byteAt_17 (q := 1) rfl ?_
      refine G_icmp_ge F zd_R_byteAt_18 (tgt := 34) rfl (fun h0 => ?_) (fun h0 => ?_)
      · have h := iP h h0
        refine G_iconst (v := (0 : Int32)) F zd_R_byteAt_34 (by decide) ?_
        have q1 := Option.some.inj h
        subst q1
        exact E 35 _ zd_R_byteAt_35
      · have h := iN h h0
        refine G_aload_n F zd_R_byteAt_21 rfl (j := 0) rfl ?_
        refine G_get F fa_R_7_R (q := 0) zd_R_byteAt_22 rfl rfl ?_
        refine G_iload_n F zd_R_byteAt_25 rfl (j := 1) rfl ?_
        obtain ⟨h0, h⟩ := gd_s h
        refine G_baload F zd_R_byteAt_26 (q := 1) rfl h0 ?_
        refine G_sipush (v := (255 : Int32)) F zd_R_byteAt_27 (by decide) ?_
        refine G_iand F zd_R_byteAt_30 ?_
        refine G_goto F zd_R_byteAt_31 (tgt := 35) rfl ?_
        have q1 := Option.some.inj h
        subst q1
        exact E 35 _ zd_R_byteAt_35

set_option maxHeartbeats 4000000 in
set_option maxRecDepth 100000 in
theorem zk_R_intAt (l : Launch) (D : va_G) (cB cI cJ : ClassId) (ra : Nat) (rb : Nat) (rn : Int32) (rl : Nat) (rf : Nat → Int32) (i1 : Int32) (r : Int32) (h : zf_R_intAt rn rl rf i1 = some r) : CoI l zy_R_intAt zw_R_intAt { frames := 1, cells := 0, slots := 0, locals := 21 } D cB cI cJ [.ref ra, .int i1] [(ra, .inr (4, [.ref rb, .int rn])), (rb, .inl (cB, rl, .inl rf))] r [(ra, .inr (4, [.ref rb, .int rn])), (rb, .inl (cB, rl, .inl rf))] := by
  unfold zf_R_intAt at h
  refine CoI.ofG (cc := zc_R_intAt) (maxL := 2) (own := RX5) (by decide) rfl rfl rfl trivial (Nat.le_of_ble_eq_true rfl) (L0 := [(0, .ref ra), (1, .int i1)]) rfl (fun k F E => ?_)
  refine G_aload_n F zd_R_intAt_0 rfl (j := 0) rfl ?_
  refine G_iload_n F zd_R_intAt_1 rfl (j := 1) rfl ?_
  obtain ⟨v1, hc2, h⟩ := bc1_s h
  refine G_calliV0 F (zk_R_byteAt l D cB cI cJ ra rb rn rl rf i1 v1 hc2) (rest := []) [0, 1] rfl rfl (q0 := 0) rfl cv_R_17_R rfl rfl ⟨Nat.le_of_ble_eq_true rfl, Nat.le_of_ble_eq_true rfl⟩ hf0 rfl (Nat.le_of_ble_eq_true rfl) zd_R_intAt_2 rfl ?_
  refine G_aload_n F zd_R_intAt_5 rfl (j := 0) rfl ?_
  refine G_iload_n F zd_R_intAt_6 rfl (j := 1) rfl ?_
  refine G_iconst (v := (1 : Int32)) F zd_R_intAt_7 (by decide) ?_
  refine G_iadd F zd_R_intAt_8 ?_
  obtain ⟨v2, hc9, h⟩ := bc1_s h
  refine G_calliV0 F (zk_R_byteAt l D cB cI cJ ra rb rn rl rf (i1 + (1 : Int32)) v2 hc9) (rest := [.int v1]) [0, 1] rfl rfl (q0 := 0) rfl cv_R_17_R rfl rfl ⟨Nat.le_of_ble_eq_true rfl, Nat.le_of_ble_eq_true rfl⟩ hf0 rfl (Nat.le_of_ble_eq_true rfl) zd_R_intAt_9 rfl ?_
  refine G_bipush (v := (8 : Int32)) F zd_R_intAt_12 (by decide) ?_
  refine G_ishl F zd_R_intAt_14 ?_
  refine G_ior F zd_R_intAt_15 ?_
  refine G_aload_n F zd_R_intAt_16 rfl (j := 0) rfl ?_
  refine G_iload_n F zd_R_intAt_17 rfl (j := 1) rfl ?_
  refine G_iconst (v := (2 : Int32)) F zd_R_intAt_18 (by decide) ?_
  refine G_iadd F zd_R_intAt_19 ?_
  obtain ⟨v3, hc20, h⟩ := bc1_s h
  refine G_calliV0 F (zk_R_byteAt l D cB cI cJ ra rb rn rl rf (i1 + (2 : Int32)) v3 hc20) (rest := [.int (v1 ||| (v2 <<< ((8 : Int32) &&& 31)))]) [0, 1] rfl rfl (q0 := 0) rfl cv_R_17_R rfl rfl ⟨Nat.le_of_ble_eq_true rfl, Nat.le_of_ble_eq_true rfl⟩ hf0 rfl (Nat.le_of_ble_eq_true rfl) zd_R_intAt_20 rfl ?_
  refine G_bipush (v := (16 : Int32)) F zd_R_intAt_23 (by decide) ?_
  refine G_ishl F zd_R_intAt_25 ?_
  refine G_ior F zd_R_intAt_26 ?_
  refine G_aload_n F zd_R_intAt_27 rfl (j := 0) rfl ?_
  refine G_iload_n F zd_R_intAt_28 rfl (j := 1) rfl ?_
  refine G_iconst (v := (3 : Int32)) F zd_R_intAt_29 (by decide) ?_
  refine G_iadd F zd_R_intAt_30 ?_
  obtain ⟨v4, hc31, h⟩ := bc1_s h
  refine G_calliV0 F (zk_R_byteAt l D cB cI cJ ra rb rn rl rf (i1 + (3 : Int32)) v4 hc31) (rest := [.int ((v1 ||| (v2 <<< ((8 : Int32) &&& 31))) ||| (v3 <<< ((16 : Int32) &&& 31)))]) [0, 1] rfl rfl (q0 := 0) rfl cv_R_17_R rfl rfl ⟨Nat.le_of_ble_eq_true rfl, Nat.le_of_ble_eq_true rfl⟩ hf0 rfl (Nat.le_of_ble_eq_true rfl) zd_R_intAt_31 rfl ?_
  refine G_bipush (v := (24 : Int32)) F zd_R_intAt_34 (by decide) ?_
  refine G_ishl F zd_R_intAt_36 ?_
  refine G_ior F zd_R_intAt_37 ?_
  have q1 := Option.some.inj h
  subst q1
  exact E 38 _ zd_R_intAt_38

set_option maxHeartbeats 4000000 in
set_option maxRecDepth 100000 in
theorem zl_R_become_6 {k : GC} {l : Launch} {D : va_G} {cB cI cJ : ClassId} (F : GF k l { frames := 1, cells := 0, slots := 0, locals := 21 } zc_R_become 3 RX5 D cB cI cJ) (rl : Nat) (on : Int32) (ol : Nat) (of : Nat → Int32) (ra : Nat) (rb : Nat) (oa : Nat) (ob : Nat) : ∀ (n : Nat) (v2 : Int32) (v3 : Int32) (v4 : Nat → Int32) (w2 : Int32) (w3 : Int32) (w4 : Nat → Int32), zf_R_become_L6 rl on ol of n v2 v3 v4 = some (w2, w3, w4) → G D 3 k 0 0 29 [(0, .ref ra), (1, .ref oa), (2, .int w2)] [] [(ra, .inr (4, [.ref rb, .int w3])), (rb, .inl (cB, rl, .inl w4)), (oa, .inr (4, [.ref ob, .int on])), (ob, .inl (cB, ol, .inl of))] → G D 3 k 0 0 6 [(0, .ref ra), (1, .ref oa), (2, .int v2)] [] [(ra, .inr (4, [.ref rb, .int v3])), (rb, .inl (cB, rl, .inl v4)), (oa, .inr (4, [.ref ob, .int on])), (ob, .inl (cB, ol, .inl of))] := by
  intro n
  induction n with
  | zero =>
    intro v2 v3 v4 w2 w3 w4 h
    rw [zf_R_become_L6_0] at h
    cases h
  | succ n ih =>
    intro v2 v3 v4 w2 w3 w4 h hx
    have h := (zf_R_become_L6_s rl on ol of n v2 v3 v4).symm.trans h
    refine G_iload_n F zd_R_become_6 rfl (j := 2) rfl ?_
    refine G_aload_n F zd_R_become_7 rfl (j := 1) rfl ?_
    refine G_get F fa_R_13_R (q := 2) zd_R_become_8 rfl rfl ?_
    refine G_icmp_ge F zd_R_become_11 (tgt := 29) rfl (fun h0 => ?_) (fun h0 => ?_)
    · have h := iP h h0
      obtain ⟨q1, q2, q3⟩ := inj3 h
      subst q1
      subst q2
      subst q3
      exact G_lv [0, 1, 2] rfl hx
    · have h := iN h h0
      refine G_aload_n F zd_R_become_14 rfl (j := 0) rfl ?_
      refine G_aload_n F zd_R_become_15 rfl (j := 1) rfl ?_
      refine G_iload_n F zd_R_become_16 rfl (j := 2) rfl ?_
      obtain ⟨v5, hc17, h⟩ := bc1_s h
      refine G_calliV0 F (zk_R_byteAt l D cB cI cJ oa ob on ol of v2 v5 hc17) (rest := [.ref ra]) [2, 3] rfl rfl (q0 := 2) rfl cv_R_17_R rfl rfl ⟨Nat.le_of_ble_eq_true rfl, Nat.le_of_ble_eq_true rfl⟩ hf0 rfl (Nat.le_of_ble_eq_true rfl) zd_R_become_17 rfl ?_
      obtain ⟨v6, v7, hc20, h⟩ := bc2_s h
      refine G_callvV F (zk_R_add l D cB cI cJ ra rb v3 rl v4 v5 v6 v7 hc20) (rest := []) [0, 1] rfl rfl rfl (ws' := [(ra, .inr (4, [.ref rb, .int v6])), (rb, .inl (cB, rl, .inl v7)), (oa, .inr (4, [.ref ob, .int on])), (ob, .inl (cB, ol, .inl of))]) rfl (q0 := 0) rfl cv_R_24_R rfl rfl ⟨Nat.le_of_ble_eq_true rfl, Nat.le_of_ble_eq_true rfl⟩ hf0 rfl (Nat.le_of_ble_eq_true rfl) zd_R_become_20 rfl ?_
      obtain ⟨v8, ev8, h⟩ := bnd_s h
      refine G_iinc F zd_R_become_23 (j := 2) rfl (w := (1 : Int32)) (by decide) ev8 (by decide) (L' := [(2, .int v8), (0, .ref ra), (1, .ref oa)]) rfl ?_
      refine G_goto F zd_R_become_26 (tgt := 6) rfl ?_
      exact G_lv [1, 2, 0] rfl (ih _ _ _ _ _ _ h hx)
set_option maxHeartbeats 4000000 in
set_option maxRecDepth 100000 in
theorem zk_R_become (l : Launch) (D : va_G) (cB cI cJ : ClassId) (ra : Nat) (rb : Nat) (oa : Nat) (ob : Nat) (rn : Int32) (rl : Nat) (rf : Nat → Int32) (on : Int32) (ol : Nat) (of : Nat → Int32) (rn' : Int32) (rf' : Nat → Int32) (h : zf_R_become rl rf on ol of = some (rn', rf')) : CoV l zy_R_become zw_R_become { frames := 1, cells := 0, slots := 0, locals := 21 } D cB cI cJ [.ref ra, .ref oa] [(ra, .inr (4, [.ref rb, .int rn])), (rb, .inl (cB, rl, .inl rf)), (oa, .inr (4, [.ref ob, .int on])), (ob, .inl (cB, ol, .inl of))] [(ra, .inr (4, [.ref rb, .int rn'])), (rb, .inl (cB, rl, .inl rf')), (oa, .inr (4, [.ref ob, .int on])), (ob, .inl (cB, ol, .inl of))] := by
  unfold zf_R_become at h
  refine CoV.ofG (cc := zc_R_become) (maxL := 3) (own := RX5) (by decide) rfl rfl rfl trivial (Nat.le_of_ble_eq_true rfl) (L0 := [(0, .ref ra), (1, .ref oa)]) rfl (fun k F E => ?_)
  refine G_aload_n F zd_R_become_0 rfl (j := 0) rfl ?_
  obtain ⟨v1, hc1, h⟩ := bc1_s h
  refine G_callvV F (zk_R_clear l D cB cI cJ ra rb rn rl rf v1 hc1) (rest := []) [0, 1] rfl rfl rfl (ws' := [(ra, .inr (4, [.ref rb, .int v1])), (rb, .inl (cB, rl, .inl rf)), (oa, .inr (4, [.ref ob, .int on])), (ob, .inl (cB, ol, .inl of))]) rfl (q0 := 0) rfl cv_R_21_R rfl rfl ⟨Nat.le_of_ble_eq_true rfl, Nat.le_of_ble_eq_true rfl⟩ hf0 rfl (Nat.le_of_ble_eq_true rfl) zd_R_become_1 rfl ?_
  refine G_iconst (v := (0 : Int32)) F zd_R_become_4 (by decide) ?_
  refine G_istore_n F zd_R_become_5 rfl (by decide) (L' := [(2, .int (0 : Int32)), (0, .ref ra), (1, .ref oa)]) rfl ?_
  obtain ⟨x9, x10, x11, hl6, h⟩ := bc3_s h
  refine G_lv [1, 2, 0] rfl (zl_R_become_6 F rl on ol of ra rb oa ob 1000 (0 : Int32) v1 rf x9 x10 x11 hl6 ?_)
  obtain ⟨q1, q2⟩ := inj2 h
  subst q1
  subst q2
  exact E 29 _ zd_R_become_29

set_option maxHeartbeats 4000000 in
set_option maxRecDepth 100000 in
theorem zk_H_length (l : Launch) (D : va_G) (cB cI cJ : ClassId) (pa : Nat) (pb : Nat) (qa : Nat) (qb : Nat) (ha : Nat) (pn : Int32) (pl : Nat) (pf : Nat → Int32) (qn : Int32) (ql : Nat) (qf : Nat → Int32) (r : Int32) (h : zf_H_length pn qn = some r) : CoI l zy_H_length zw_H_length { frames := 0, cells := 0, slots := 0, locals := 0 } D cB cI cJ [.ref ha] [(pa, .inr (4, [.ref pb, .int pn])), (pb, .inl (cB, pl, .inl pf)), (qa, .inr (4, [.ref qb, .int qn])), (qb, .inl (cB, ql, .inl qf)), (ha, .inr (2, [.ref pa, .ref qa]))] r [(pa, .inr (4, [.ref pb, .int pn])), (pb, .inl (cB, pl, .inl pf)), (qa, .inr (4, [.ref qb, .int qn])), (qb, .inl (cB, ql, .inl qf)), (ha, .inr (2, [.ref pa, .ref qa]))] := by
  unfold zf_H_length at h
  refine CoI.ofG (cc := zc_H_length) (maxL := 1) (own := RX2) (by decide) rfl rfl rfl trivial (Nat.le_of_ble_eq_true rfl) (L0 := [(0, .ref ha)]) rfl (fun k F E => ?_)
  refine G_aload_n F zd_H_length_0 rfl (j := 0) rfl ?_
  refine G_get F fa_H_7_H (q := 4) zd_H_length_1 rfl rfl ?_
  refine G_get F fa_H_16_R (q := 0) zd_H_length_4 rfl rfl ?_
  refine G_aload_n F zd_H_length_7 rfl (j := 0) rfl ?_
  refine G_get F fa_H_13_H (q := 4) zd_H_length_8 rfl rfl ?_
  refine G_get F fa_H_16_R (q := 2) zd_H_length_11 rfl rfl ?_
  refine G_iadd F zd_H_length_14 ?_
  have q1 := Option.some.inj h
  subst q1
  exact E 15 _ zd_H_length_15

set_option maxHeartbeats 4000000 in
set_option maxRecDepth 100000 in
theorem zk_H_byteAt (l : Launch) (D : va_G) (cB cI cJ : ClassId) (pa : Nat) (pb : Nat) (qa : Nat) (qb : Nat) (ha : Nat) (pn : Int32) (pl : Nat) (pf : Nat → Int32) (qn : Int32) (ql : Nat) (qf : Nat → Int32) (i1 : Int32) (r : Int32) (h : zf_H_byteAt pn pl pf qn ql qf i1 = some r) : CoI l zy_H_byteAt zw_H_byteAt { frames := 1, cells := 0, slots := 0, locals := 21 } D cB cI cJ [.ref ha, .int i1] [(pa, .inr (4, [.ref pb, .int pn])), (pb, .inl (cB, pl, .inl pf)), (qa, .inr (4, [.ref qb, .int qn])), (qb, .inl (cB, ql, .inl qf)), (ha, .inr (2, [.ref pa, .ref qa]))] r [(pa, .inr (4, [.ref pb, .int pn])), (pb, .inl (cB, pl, .inl pf)), (qa, .inr (4, [.ref qb, .int qn])), (qb, .inl (cB, ql, .inl qf)), (ha, .inr (2, [.ref pa, .ref qa]))] := by
  unfold zf_H_byteAt at h
  refine CoI.ofG (cc := zc_H_byteAt) (maxL := 2) (own := RX2) (by decide) rfl rfl rfl trivial (Nat.le_of_ble_eq_true rfl) (L0 := [(0, .ref ha), (1, .int i1)]) rfl (fun k F E => ?_)
  refine G_iload_n F zd_H_byteAt_0 rfl (j := 1) rfl ?_
  refine G_aload_n F zd_H_byteAt_1 rfl (j := 0) rfl ?_
  refine G_get F fa_H_7_H (q := 4) zd_H_byteAt_2 rfl rfl ?_
  refine G_get F fa_H_16_R (q := 0) zd_H_byteAt_5 rfl rfl ?_
  refine G_icmp_ge F zd_H_byteAt_8 (tgt := 22) rfl (fun h0 => ?_) (fun h0 => ?_)
  · have h := iP h h0
    refine G_aload_n F zd_H_byteAt_22 rfl (j := 0) rfl ?_
    refine G_get F fa_H_13_H (q := 4) zd_H_byteAt_23 rfl rfl ?_
    refine G_iload_n F zd_H_byteAt_26 rfl (j := 1) rfl ?_
    refine G_aload_n F zd_H_byteAt_27 rfl (j := 0) rfl ?_
    refine G_get F fa_H_7_H (q := 4) zd_H_byteAt_28 rfl rfl ?_
    refine G_get F fa_H_16_R (q := 0) zd_H_byteAt_31 rfl rfl ?_
    refine G_isub F zd_H_byteAt_34 ?_
    obtain ⟨v1, hc35, h⟩ := bc1_s h
    refine G_calliV0 F (zk_R_byteAt l D cB cI cJ qa qb qn ql qf (i1 - pn) v1 hc35) (rest := []) [2, 3] rfl rfl (q0 := 2) rfl cv_H_22_R rfl rfl ⟨Nat.le_of_ble_eq_true rfl, Nat.le_of_ble_eq_true rfl⟩ hf0 rfl (Nat.le_of_ble_eq_true rfl) zd_H_byteAt_35 rfl ?_
    have q1 := Option.some.inj h
    subst q1
    exact E 38 _ zd_H_byteAt_38
  · have h := iN h h0
    refine G_aload_n F zd_H_byteAt_11 rfl (j := 0) rfl ?_
    refine G_get F fa_H_7_H (q := 4) zd_H_byteAt_12 rfl rfl ?_
    refine G_iload_n F zd_H_byteAt_15 rfl (j := 1) rfl ?_
    obtain ⟨v2, hc16, h⟩ := bc1_s h
    refine G_calliV0 F (zk_R_byteAt l D cB cI cJ pa pb pn pl pf i1 v2 hc16) (rest := []) [0, 1] rfl rfl (q0 := 0) rfl cv_H_22_R rfl rfl ⟨Nat.le_of_ble_eq_true rfl, Nat.le_of_ble_eq_true rfl⟩ hf0 rfl (Nat.le_of_ble_eq_true rfl) zd_H_byteAt_16 rfl ?_
    refine G_goto F zd_H_byteAt_19 (tgt := 38) rfl ?_
    have q1 := Option.some.inj h
    subst q1
    exact E 38 _ zd_H_byteAt_38

set_option maxHeartbeats 4000000 in
set_option maxRecDepth 100000 in
theorem zk_H_intAt (l : Launch) (D : va_G) (cB cI cJ : ClassId) (pa : Nat) (pb : Nat) (qa : Nat) (qb : Nat) (ha : Nat) (pn : Int32) (pl : Nat) (pf : Nat → Int32) (qn : Int32) (ql : Nat) (qf : Nat → Int32) (i1 : Int32) (r : Int32) (h : zf_H_intAt pn pl pf qn ql qf i1 = some r) : CoI l zy_H_intAt zw_H_intAt { frames := 2, cells := 0, slots := 0, locals := 42 } D cB cI cJ [.ref ha, .int i1] [(pa, .inr (4, [.ref pb, .int pn])), (pb, .inl (cB, pl, .inl pf)), (qa, .inr (4, [.ref qb, .int qn])), (qb, .inl (cB, ql, .inl qf)), (ha, .inr (2, [.ref pa, .ref qa]))] r [(pa, .inr (4, [.ref pb, .int pn])), (pb, .inl (cB, pl, .inl pf)), (qa, .inr (4, [.ref qb, .int qn])), (qb, .inl (cB, ql, .inl qf)), (ha, .inr (2, [.ref pa, .ref qa]))] := by
  unfold zf_H_intAt at h
  refine CoI.ofG (cc := zc_H_intAt) (maxL := 2) (own := RX2) (by decide) rfl rfl rfl trivial (Nat.le_of_ble_eq_true rfl) (L0 := [(0, .ref ha), (1, .int i1)]) rfl (fun k F E => ?_)
  refine G_aload_n F zd_H_intAt_0 rfl (j := 0) rfl ?_
  refine G_iload_n F zd_H_intAt_1 rfl (j := 1) rfl ?_
  obtain ⟨v1, hc2, h⟩ := bc1_s h
  refine G_calliV0 F (zk_H_byteAt l D cB cI cJ pa pb qa qb ha pn pl pf qn ql qf i1 v1 hc2) (rest := []) [0, 1, 2, 3, 4] rfl rfl (q0 := 4) rfl cv_H_26_H rfl rfl ⟨Nat.le_of_ble_eq_true rfl, Nat.le_of_ble_eq_true rfl⟩ hf0 rfl (Nat.le_of_ble_eq_true rfl) zd_H_intAt_2 rfl ?_
  refine G_aload_n F zd_H_intAt_5 rfl (j := 0) rfl ?_
  refine G_iload_n F zd_H_intAt_6 rfl (j := 1) rfl ?_
  refine G_iconst (v := (1 : Int32)) F zd_H_intAt_7 (by decide) ?_
  refine G_iadd F zd_H_intAt_8 ?_
  obtain ⟨v2, hc9, h⟩ := bc1_s h
  refine G_calliV0 F (zk_H_byteAt l D cB cI cJ pa pb qa qb ha pn pl pf qn ql qf (i1 + (1 : Int32)) v2 hc9) (rest := [.int v1]) [0, 1, 2, 3, 4] rfl rfl (q0 := 4) rfl cv_H_26_H rfl rfl ⟨Nat.le_of_ble_eq_true rfl, Nat.le_of_ble_eq_true rfl⟩ hf0 rfl (Nat.le_of_ble_eq_true rfl) zd_H_intAt_9 rfl ?_
  refine G_bipush (v := (8 : Int32)) F zd_H_intAt_12 (by decide) ?_
  refine G_ishl F zd_H_intAt_14 ?_
  refine G_ior F zd_H_intAt_15 ?_
  refine G_aload_n F zd_H_intAt_16 rfl (j := 0) rfl ?_
  refine G_iload_n F zd_H_intAt_17 rfl (j := 1) rfl ?_
  refine G_iconst (v := (2 : Int32)) F zd_H_intAt_18 (by decide) ?_
  refine G_iadd F zd_H_intAt_19 ?_
  obtain ⟨v3, hc20, h⟩ := bc1_s h
  refine G_calliV0 F (zk_H_byteAt l D cB cI cJ pa pb qa qb ha pn pl pf qn ql qf (i1 + (2 : Int32)) v3 hc20) (rest := [.int (v1 ||| (v2 <<< ((8 : Int32) &&& 31)))]) [0, 1, 2, 3, 4] rfl rfl (q0 := 4) rfl cv_H_26_H rfl rfl ⟨Nat.le_of_ble_eq_true rfl, Nat.le_of_ble_eq_true rfl⟩ hf0 rfl (Nat.le_of_ble_eq_true rfl) zd_H_intAt_20 rfl ?_
  refine G_bipush (v := (16 : Int32)) F zd_H_intAt_23 (by decide) ?_
  refine G_ishl F zd_H_intAt_25 ?_
  refine G_ior F zd_H_intAt_26 ?_
  refine G_aload_n F zd_H_intAt_27 rfl (j := 0) rfl ?_
  refine G_iload_n F zd_H_intAt_28 rfl (j := 1) rfl ?_
  refine G_iconst (v := (3 : Int32)) F zd_H_intAt_29 (by decide) ?_
  refine G_iadd F zd_H_intAt_30 ?_
  obtain ⟨v4, hc31, h⟩ := bc1_s h
  refine G_calliV0 F (zk_H_byteAt l D cB cI cJ pa pb qa qb ha pn pl pf qn ql qf (i1 + (3 : Int32)) v4 hc31) (rest := [.int ((v1 ||| (v2 <<< ((8 : Int32) &&& 31))) ||| (v3 <<< ((16 : Int32) &&& 31)))]) [0, 1, 2, 3, 4] rfl rfl (q0 := 4) rfl cv_H_26_H rfl rfl ⟨Nat.le_of_ble_eq_true rfl, Nat.le_of_ble_eq_true rfl⟩ hf0 rfl (Nat.le_of_ble_eq_true rfl) zd_H_intAt_31 rfl ?_
  refine G_bipush (v := (24 : Int32)) F zd_H_intAt_34 (by decide) ?_
  refine G_ishl F zd_H_intAt_36 ?_
  refine G_ior F zd_H_intAt_37 ?_
  have q1 := Option.some.inj h
  subst q1
  exact E 38 _ zd_H_intAt_38

