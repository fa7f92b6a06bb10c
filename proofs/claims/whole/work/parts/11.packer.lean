set_option maxHeartbeats 4000000 in
set_option maxRecDepth 100000 in
theorem zk_P_exchange (l : Launch) (D : va_G) (cB cI cJ : ClassId) (pa : Nat) (pb : Nat) (qa : Nat) (qb : Nat) (ka : Nat) (ha : Nat) (ta : Nat) (pn : Int32) (pl : Nat) (pf : Nat → Int32) (qn : Int32) (ql : Nat) (qf : Nat → Int32) (tf : Nat → Int32) (an : Int32) (mt : Int32) (co : Int32) (i1 : Int32) (r : Int32) (tf' : Nat → Int32) (h : zf_P_exchange pn pl pf qn ql qf tf i1 = some (r, tf')) : CoI l zy_P_exchange zw_P_exchange { frames := 3, cells := 0, slots := 0, locals := 63 } D cB cI cJ [.ref ka, .int i1] [(pa, .inr (4, [.ref pb, .int pn])), (pb, .inl (cB, pl, .inl pf)), (qa, .inr (4, [.ref qb, .int qn])), (qb, .inl (cB, ql, .inl qf)), (ha, .inr (2, [.ref pa, .ref qa])), (ka, .inr (3, [.ref pa, .ref qa, .ref ha, .ref ta, .int an, .int mt, .int co])), (ta, .inl (cI, 32, .inl tf))] r [(pa, .inr (4, [.ref pb, .int pn])), (pb, .inl (cB, pl, .inl pf)), (qa, .inr (4, [.ref qb, .int qn])), (qb, .inl (cB, ql, .inl qf)), (ha, .inr (2, [.ref pa, .ref qa])), (ka, .inr (3, [.ref pa, .ref qa, .ref ha, .ref ta, .int an, .int mt, .int co])), (ta, .inl (cI, 32, .inl tf'))] := by
  unfold zf_P_exchange at h
  refine CoI.ofG (cc := zc_P_exchange) (maxL := 4) (own := RX3) (by decide) rfl rfl rfl trivial (Nat.le_of_ble_eq_true rfl) (L0 := [(0, .ref ka), (1, .int i1)]) rfl (fun k F E => ?_)
  refine G_aload_n F zd_P_exchange_0 rfl (j := 0) rfl ?_
  refine G_get F fa_P_21_P (q := 5) zd_P_exchange_1 rfl rfl ?_
  refine G_iload_n F zd_P_exchange_4 rfl (j := 1) rfl ?_
  obtain ⟨v1, hc5, h⟩ := bc1_s h
  refine G_calliV0 F (zk_H_intAt l D cB cI cJ pa pb qa qb ha pn pl pf qn ql qf i1 v1 hc5) (rest := []) [0, 1, 2, 3, 4] rfl rfl (q0 := 4) rfl cv_P_70_H rfl rfl ⟨Nat.le_of_ble_eq_true rfl, Nat.le_of_ble_eq_true rfl⟩ hf0 rfl (Nat.le_of_ble_eq_true rfl) zd_P_exchange_5 rfl ?_
  refine G_ldc (v := (-1640531535 : Int32)) F aw_44 zd_P_exchange_8 ?_
  refine G_imul F zd_P_exchange_10 ?_
  refine G_bipush (v := (27 : Int32)) F zd_P_exchange_11 (by decide) ?_
  refine G_iushr F zd_P_exchange_13 ?_
  obtain ⟨v2, ev2, h⟩ := bnd_s h
  refine G_topi ev2 ?_
  refine G_istore_n F zd_P_exchange_14 rfl (by decide) (L' := [(2, .int v2), (0, .ref ka), (1, .int i1)]) rfl ?_
  refine G_iload_n F zd_P_exchange_15 rfl (j := 0) rfl ?_
  refine G_if_lt F zd_P_exchange_16 (tgt := 28) rfl (fun h0 => ?_) (fun h0 => ?_)
  · have h := iP h h0
    refine G_iconst (v := (-1 : Int32)) F zd_P_exchange_28 (by decide) ?_
    obtain ⟨q1, q2⟩ := inj2 h
    subst q1
    subst q2
    exact E 29 _ zd_P_exchange_29
  · have h := iN h h0
    refine G_iload_n F zd_P_exchange_19 rfl (j := 0) rfl ?_
    refine G_aload_n F zd_P_exchange_20 rfl (j := 1) rfl ?_
    refine G_get F fa_P_25_P (q := 5) zd_P_exchange_21 rfl rfl ?_
    refine G_alenI F zd_P_exchange_24 (q := 6) rfl ?_
    refine G_icmp_lt F zd_P_exchange_25 (tgt := 30) rfl (fun h0 => ?_) (fun h0 => ?_)
    · have h := iP h h0
      refine G_aload_n F zd_P_exchange_30 rfl (j := 1) rfl ?_
      refine G_get F fa_P_25_P (q := 5) zd_P_exchange_31 rfl rfl ?_
      refine G_iload_n F zd_P_exchange_34 rfl (j := 0) rfl ?_
      obtain ⟨h0, h⟩ := gd_s h
      refine G_iaload F zd_P_exchange_35 (q := 6) rfl h0 ?_
      obtain ⟨v3, ev3, h⟩ := bnd_s h
      refine G_topi ev3 ?_
      refine G_istore_n F zd_P_exchange_36 rfl (by decide) (L' := [(3, .int v3), (2, .int v2), (0, .ref ka), (1, .int i1)]) rfl ?_
      refine G_aload_n F zd_P_exchange_37 rfl (j := 2) rfl ?_
      refine G_get F fa_P_25_P (q := 5) zd_P_exchange_38 rfl rfl ?_
      refine G_iload_n F zd_P_exchange_41 rfl (j := 1) rfl ?_
      refine G_iload_n F zd_P_exchange_42 rfl (j := 3) rfl ?_
      obtain ⟨h0, h⟩ := gd_s h
      obtain ⟨v4, ev4, h⟩ := bnd_s h
      refine G_iastore F zd_P_exchange_43 (q := 6) rfl h0 ev4 (ws' := [(pa, .inr (4, [.ref pb, .int pn])), (pb, .inl (cB, pl, .inl pf)), (qa, .inr (4, [.ref qb, .int qn])), (qb, .inl (cB, ql, .inl qf)), (ha, .inr (2, [.ref pa, .ref qa])), (ka, .inr (3, [.ref pa, .ref qa, .ref ha, .ref ta, .int an, .int mt, .int co])), (ta, .inl (cI, 32, .inl v4))]) rfl ?_
      refine G_iload_n F zd_P_exchange_44 rfl (j := 0) rfl ?_
      obtain ⟨q1, q2⟩ := inj2 h
      subst q1
      subst q2
      exact E 45 _ zd_P_exchange_45
    · have h := iN h h0
      refine G_iconst (v := (-1 : Int32)) F zd_P_exchange_28 (by decide) ?_
      obtain ⟨q1, q2⟩ := inj2 h
      subst q1
      subst q2
      exact E 29 _ zd_P_exchange_29

set_option maxHeartbeats 4000000 in
set_option maxRecDepth 100000 in
theorem zl_P_learnPast_2 {k : GC} {l : Launch} {D : va_G} {cB cI cJ : ClassId} (F : GF k l { frames := 4, cells := 0, slots := 0, locals := 86 } zc_P_learnPast 2 RX3 D cB cI cJ) (pn : Int32) (pl : Nat) (pf : Nat → Int32) (qn : Int32) (ql : Nat) (qf : Nat → Int32) (an : Int32) (mt : Int32) (co : Int32) (pa : Nat) (pb : Nat) (qa : Nat) (qb : Nat) (ka : Nat) (ha : Nat) (ta : Nat) : ∀ (n : Nat) (v1 : Int32) (v2 : Nat → Int32) (w1 : Int32) (w2 : Nat → Int32), zf_P_learnPast_L2  n v1 v2 = some (w1, w2) → G D 2 k 0 0 24 [(0, .ref ka), (1, .int w1)] [] [(pa, .inr (4, [.ref pb, .int pn])), (pb, .inl (cB, pl, .inl pf)), (qa, .inr (4, [.ref qb, .int qn])), (qb, .inl (cB, ql, .inl qf)), (ha, .inr (2, [.ref pa, .ref qa])), (ka, .inr (3, [.ref pa, .ref qa, .ref ha, .ref ta, .int an, .int mt, .int co])), (ta, .inl (cI, 32, .inl w2))] → G D 2 k 0 0 2 [(0, .ref ka), (1, .int v1)] [] [(pa, .inr (4, [.ref pb, .int pn])), (pb, .inl (cB, pl, .inl pf)), (qa, .inr (4, [.ref qb, .int qn])), (qb, .inl (cB, ql, .inl qf)), (ha, .inr (2, [.ref pa, .ref qa])), (ka, .inr (3, [.ref pa, .ref qa, .ref ha, .ref ta, .int an, .int mt, .int co])), (ta, .inl (cI, 32, .inl v2))] := by
  intro n
  induction n with
  | zero =>
    intro v1 v2 w1 w2 h
    rw [zf_P_learnPast_L2_0] at h
    cases h
  | succ n ih =>
    intro v1 v2 w1 w2 h hx
    have h := (zf_P_learnPast_L2_s  n v1 v2).symm.trans h
    refine G_iload_n F zd_P_learnPast_2 rfl (j := 1) rfl ?_
    refine G_aload_n F zd_P_learnPast_3 rfl (j := 0) rfl ?_
    refine G_get F fa_P_25_P (q := 5) zd_P_learnPast_4 rfl rfl ?_
    refine G_alenI F zd_P_learnPast_7 (q := 6) rfl ?_
    refine G_icmp_ge F zd_P_learnPast_8 (tgt := 24) rfl (fun h0 => ?_) (fun h0 => ?_)
    · have h := iP h h0
      obtain ⟨q1, q2⟩ := inj2 h
      subst q1
      subst q2
      exact G_lv [0, 1] rfl hx
    · have h := iN h h0
      refine G_aload_n F zd_P_learnPast_11 rfl (j := 0) rfl ?_
      refine G_get F fa_P_25_P (q := 5) zd_P_learnPast_12 rfl rfl ?_
      refine G_iload_n F zd_P_learnPast_15 rfl (j := 1) rfl ?_
      refine G_iconst (v := (-1 : Int32)) F zd_P_learnPast_16 (by decide) ?_
      obtain ⟨h0, h⟩ := gd_s h
      obtain ⟨v3, ev3, h⟩ := bnd_s h
      refine G_iastore F zd_P_learnPast_17 (q := 6) rfl h0 ev3 (ws' := [(pa, .inr (4, [.ref pb, .int pn])), (pb, .inl (cB, pl, .inl pf)), (qa, .inr (4, [.ref qb, .int qn])), (qb, .inl (cB, ql, .inl qf)), (ha, .inr (2, [.ref pa, .ref qa])), (ka, .inr (3, [.ref pa, .ref qa, .ref ha, .ref ta, .int an, .int mt, .int co])), (ta, .inl (cI, 32, .inl v3))]) rfl ?_
      obtain ⟨v4, ev4, h⟩ := bnd_s h
      refine G_iinc F zd_P_learnPast_18 (j := 1) rfl (w := (1 : Int32)) (by decide) ev4 (by decide) (L' := [(1, .int v4), (0, .ref ka)]) rfl ?_
      refine G_goto F zd_P_learnPast_21 (tgt := 2) rfl ?_
      exact G_lv [1, 0] rfl (ih _ _ _ _ h hx)
set_option maxHeartbeats 4000000 in
set_option maxRecDepth 100000 in
theorem zl_P_learnPast_26 {k : GC} {l : Launch} {D : va_G} {cB cI cJ : ClassId} (F : GF k l { frames := 4, cells := 0, slots := 0, locals := 86 } zc_P_learnPast 2 RX3 D cB cI cJ) (pn : Int32) (pl : Nat) (pf : Nat → Int32) (qn : Int32) (ql : Nat) (qf : Nat → Int32) (an : Int32) (mt : Int32) (co : Int32) (pa : Nat) (pb : Nat) (qa : Nat) (qb : Nat) (ka : Nat) (ha : Nat) (ta : Nat) : ∀ (n : Nat) (v7 : Int32) (v8 : Nat → Int32) (w7 : Int32) (w8 : Nat → Int32), zf_P_learnPast_L26 pn pl pf qn ql qf n v7 v8 = some (w7, w8) → G D 2 k 0 0 51 [(0, .ref ka), (1, .int w7)] [] [(pa, .inr (4, [.ref pb, .int pn])), (pb, .inl (cB, pl, .inl pf)), (qa, .inr (4, [.ref qb, .int qn])), (qb, .inl (cB, ql, .inl qf)), (ha, .inr (2, [.ref pa, .ref qa])), (ka, .inr (3, [.ref pa, .ref qa, .ref ha, .ref ta, .int an, .int mt, .int co])), (ta, .inl (cI, 32, .inl w8))] → G D 2 k 0 0 26 [(0, .ref ka), (1, .int v7)] [] [(pa, .inr (4, [.ref pb, .int pn])), (pb, .inl (cB, pl, .inl pf)), (qa, .inr (4, [.ref qb, .int qn])), (qb, .inl (cB, ql, .inl qf)), (ha, .inr (2, [.ref pa, .ref qa])), (ka, .inr (3, [.ref pa, .ref qa, .ref ha, .ref ta, .int an, .int mt, .int co])), (ta, .inl (cI, 32, .inl v8))] := by
  intro n
  induction n with
  | zero =>
    intro v7 v8 w7 w8 h
    rw [zf_P_learnPast_L26_0] at h
    cases h
  | succ n ih =>
    intro v7 v8 w7 w8 h hx
    have h := (zf_P_learnPast_L26_s pn pl pf qn ql qf n v7 v8).symm.trans h
    refine G_iload_n F zd_P_learnPast_26 rfl (j := 1) rfl ?_
    refine G_iconst (v := (4 : Int32)) F zd_P_learnPast_27 (by decide) ?_
    refine G_iadd F zd_P_learnPast_28 ?_
    refine G_aload_n F zd_P_learnPast_29 rfl (j := 0) rfl ?_
    refine G_get F fa_P_7_P (q := 5) zd_P_learnPast_30 rfl rfl ?_
    refine G_get F fa_P_47_R (q := 0) zd_P_learnPast_33 rfl rfl ?_
    refine G_icmp_gt F zd_P_learnPast_36 (tgt := 51) rfl (fun h0 => ?_) (fun h0 => ?_)
    · have h := iP h h0
      obtain ⟨q1, q2⟩ := inj2 h
      subst q1
      subst q2
      exact G_lv [0, 1] rfl hx
    · have h := iN h h0
      refine G_aload_n F zd_P_learnPast_39 rfl (j := 0) rfl ?_
      refine G_iload_n F zd_P_learnPast_40 rfl (j := 1) rfl ?_
      obtain ⟨v9, v10, hc41, h⟩ := bc2_s h
      refine G_calliV F (zk_P_exchange l D cB cI cJ pa pb qa qb ka ha ta pn pl pf qn ql qf v8 an mt co v7 v9 v10 hc41) (rest := []) [0, 1, 2, 3, 4, 5, 6] rfl rfl rfl (ws' := [(pa, .inr (4, [.ref pb, .int pn])), (pb, .inl (cB, pl, .inl pf)), (qa, .inr (4, [.ref qb, .int qn])), (qb, .inl (cB, ql, .inl qf)), (ha, .inr (2, [.ref pa, .ref qa])), (ka, .inr (3, [.ref pa, .ref qa, .ref ha, .ref ta, .int an, .int mt, .int co])), (ta, .inl (cI, 32, .inl v10))]) rfl (q0 := 5) rfl cv_P_66_P rfl rfl ⟨Nat.le_of_ble_eq_true rfl, Nat.le_of_ble_eq_true rfl⟩ hf0 rfl (Nat.le_of_ble_eq_true rfl) zd_P_learnPast_41 rfl ?_
      refine G_pop F zd_P_learnPast_44 rfl ?_
      obtain ⟨v11, ev11, h⟩ := bnd_s h
      refine G_iinc F zd_P_learnPast_45 (j := 1) rfl (w := (1 : Int32)) (by decide) ev11 (by decide) (L' := [(1, .int v11), (0, .ref ka)]) rfl ?_
      refine G_goto F zd_P_learnPast_48 (tgt := 26) rfl ?_
      exact G_lv [1, 0] rfl (ih _ _ _ _ h hx)
set_option maxHeartbeats 4000000 in
set_option maxRecDepth 100000 in
theorem zk_P_learnPast (l : Launch) (D : va_G) (cB cI cJ : ClassId) (pa : Nat) (pb : Nat) (qa : Nat) (qb : Nat) (ka : Nat) (ha : Nat) (ta : Nat) (pn : Int32) (pl : Nat) (pf : Nat → Int32) (qn : Int32) (ql : Nat) (qf : Nat → Int32) (tf : Nat → Int32) (an : Int32) (mt : Int32) (co : Int32) (tf' : Nat → Int32) (h : zf_P_learnPast pn pl pf qn ql qf tf = some tf') : CoV l zy_P_learnPast zw_P_learnPast { frames := 4, cells := 0, slots := 0, locals := 86 } D cB cI cJ [.ref ka] [(pa, .inr (4, [.ref pb, .int pn])), (pb, .inl (cB, pl, .inl pf)), (qa, .inr (4, [.ref qb, .int qn])), (qb, .inl (cB, ql, .inl qf)), (ha, .inr (2, [.ref pa, .ref qa])), (ka, .inr (3, [.ref pa, .ref qa, .ref ha, .ref ta, .int an, .int mt, .int co])), (ta, .inl (cI, 32, .inl tf))] [(pa, .inr (4, [.ref pb, .int pn])), (pb, .inl (cB, pl, .inl pf)), (qa, .inr (4, [.ref qb, .int qn])), (qb, .inl (cB, ql, .inl qf)), (ha, .inr (2, [.ref pa, .ref qa])), (ka, .inr (3, [.ref pa, .ref qa, .ref ha, .ref ta, .int an, .int mt, .int co])), (ta, .inl (cI, 32, .inl tf'))] := by
  unfold zf_P_learnPast at h
  refine CoV.ofG (cc := zc_P_learnPast) (maxL := 2) (own := RX3) (by decide) rfl rfl rfl trivial (Nat.le_of_ble_eq_true rfl) (L0 := [(0, .ref ka)]) rfl (fun k F E => ?_)
  refine G_iconst (v := (0 : Int32)) F zd_P_learnPast_0 (by decide) ?_
  refine G_istore_n F zd_P_learnPast_1 rfl (by decide) (L' := [(1, .int (0 : Int32)), (0, .ref ka)]) rfl ?_
  obtain ⟨x5, x6, hl2, h⟩ := bc2_s h
  refine G_lv [1, 0] rfl (zl_P_learnPast_2 F pn pl pf qn ql qf an mt co pa pb qa qb ka ha ta 1000 (0 : Int32) tf x5 x6 hl2 ?_)
  refine G_iconst (v := (0 : Int32)) F zd_P_learnPast_24 (by decide) ?_
  refine G_istore_n F zd_P_learnPast_25 rfl (by decide) (L' := [(1, .int (0 : Int32)), (0, .ref ka)]) rfl ?_
  obtain ⟨x12, x13, hl26, h⟩ := bc2_s h
  refine G_lv [1, 0] rfl (zl_P_learnPast_26 F pn pl pf qn ql qf an mt co pa pb qa qb ka ha ta 1000 (0 : Int32) x6 x12 x13 hl26 ?_)
  have q1 := Option.some.inj h
  subst q1
  exact E 51 _ zd_P_learnPast_51

set_option maxHeartbeats 4000000 in
set_option maxRecDepth 100000 in
theorem zk_SW_begin (l : Launch) (D : va_G) (cB cI cJ : ClassId) (qa : Nat) (qb : Nat) (oa : Nat) (ob : Nat) (wa : Nat) (qn : Int32) (ql : Nat) (qf : Nat → Int32) (on : Int32) (ol : Nat) (of : Nat → Int32) (on' : Int32) (h : zf_SW_begin  = some on') : CoV l zy_SW_begin zw_SW_begin { frames := 1, cells := 0, slots := 0, locals := 20 } D cB cI cJ [.ref wa] [(qa, .inr (4, [.ref qb, .int qn])), (qb, .inl (cB, ql, .inl qf)), (oa, .inr (4, [.ref ob, .int on])), (ob, .inl (cB, ol, .inl of)), (wa, .inr (6, [.ref qa, .ref oa]))] [(qa, .inr (4, [.ref qb, .int qn])), (qb, .inl (cB, ql, .inl qf)), (oa, .inr (4, [.ref ob, .int on'])), (ob, .inl (cB, ol, .inl of)), (wa, .inr (6, [.ref qa, .ref oa]))] := by
  unfold zf_SW_begin at h
  refine CoV.ofG (cc := zc_SW_begin) (maxL := 1) (own := RX7) (by decide) rfl rfl rfl trivial (Nat.le_of_ble_eq_true rfl) (L0 := [(0, .ref wa)]) rfl (fun k F E => ?_)
  refine G_aload_n F zd_SW_begin_0 rfl (j := 0) rfl ?_
  refine G_get F fa_SW_7_SW (q := 4) zd_SW_begin_1 rfl rfl ?_
  obtain ⟨v1, hc4, h⟩ := bc1_s h
  refine G_callvV F (zk_R_clear l D cB cI cJ oa ob on ol of v1 hc4) (rest := []) [2, 3] rfl rfl rfl (ws' := [(qa, .inr (4, [.ref qb, .int qn])), (qb, .inl (cB, ql, .inl qf)), (oa, .inr (4, [.ref ob, .int v1])), (ob, .inl (cB, ol, .inl of)), (wa, .inr (6, [.ref qa, .ref oa]))]) rfl (q0 := 2) rfl cv_SW_13_R rfl rfl ⟨Nat.le_of_ble_eq_true rfl, Nat.le_of_ble_eq_true rfl⟩ hf0 rfl (Nat.le_of_ble_eq_true rfl) zd_SW_begin_4 rfl ?_
  have q1 := Option.some.inj h
  subst q1
  exact E 7 _ zd_SW_begin_7

set_option maxHeartbeats 4000000 in
set_option maxRecDepth 100000 in
theorem zl_P_matchLength_15 {k : GC} {l : Launch} {D : va_G} {cB cI cJ : ClassId} (F : GF k l { frames := 2, cells := 0, slots := 0, locals := 42 } zc_P_matchLength 5 RX3 D cB cI cJ) (pn : Int32) (pl : Nat) (pf : Nat → Int32) (qn : Int32) (ql : Nat) (qf : Nat → Int32) (tf : Nat → Int32) (an : Int32) (mt : Int32) (co : Int32) (i1 : Int32) (i2 : Int32) (pa : Nat) (pb : Nat) (qa : Nat) (qb : Nat) (ka : Nat) (ha : Nat) (ta : Nat) (v2 : Int32) : ∀ (n : Nat) (v3 : Int32) (w3 : Int32), zf_P_matchLength_L15 pn pl pf qn ql qf i1 i2 v2 n v3 = some w3 → G D 5 k 0 0 52 [(0, .ref ka), (1, .int i1), (2, .int i2), (3, .int v2), (4, .int w3)] [] [(pa, .inr (4, [.ref pb, .int pn])), (pb, .inl (cB, pl, .inl pf)), (qa, .inr (4, [.ref qb, .int qn])), (qb, .inl (cB, ql, .inl qf)), (ha, .inr (2, [.ref pa, .ref qa])), (ka, .inr (3, [.ref pa, .ref qa, .ref ha, .ref ta, .int an, .int mt, .int co])), (ta, .inl (cI, 32, .inl tf))] → G D 5 k 0 0 15 [(0, .ref ka), (1, .int i1), (2, .int i2), (3, .int v2), (4, .int v3)] [] [(pa, .inr (4, [.ref pb, .int pn])), (pb, .inl (cB, pl, .inl pf)), (qa, .inr (4, [.ref qb, .int qn])), (qb, .inl (cB, ql, .inl qf)), (ha, .inr (2, [.ref pa, .ref qa])), (ka, .inr (3, [.ref pa, .ref qa, .ref ha, .ref ta, .int an, .int mt, .int co])), (ta, .inl (cI, 32, .inl tf))] := by
  intro n
  induction n with
  | zero =>
    intro v3 w3 h
    rw [zf_P_matchLength_L15_0] at h
    cases h
  | succ n ih =>
    intro v3 w3 h hx
    have h := (zf_P_matchLength_L15_s pn pl pf qn ql qf i1 i2 v2 n v3).symm.trans h
    refine G_iload F zd_P_matchLength_15 (j := 4) rfl ?_
    refine G_iload_n F zd_P_matchLength_17 rfl (j := 3) rfl ?_
    refine G_icmp_ge F zd_P_matchLength_18 (tgt := 52) rfl (fun h0 => ?_) (fun h0 => ?_)
    · have h := iP h h0
      have q1 := Option.some.inj h
      subst q1
      exact G_lv [0, 1, 2, 3, 4] rfl hx
    · have h := iN h h0
      refine G_aload_n F zd_P_matchLength_21 rfl (j := 0) rfl ?_
      refine G_get F fa_P_21_P (q := 5) zd_P_matchLength_22 rfl rfl ?_
      refine G_iload_n F zd_P_matchLength_25 rfl (j := 1) rfl ?_
      refine G_iload F zd_P_matchLength_26 (j := 4) rfl ?_
      refine G_iadd F zd_P_matchLength_28 ?_
      obtain ⟨v4, hc29, h⟩ := bc1_s h
      refine G_calliV0 F (zk_H_byteAt l D cB cI cJ pa pb qa qb ha pn pl pf qn ql qf (i1 + v3) v4 hc29) (rest := []) [0, 1, 2, 3, 4] rfl rfl (q0 := 4) rfl cv_P_84_H rfl rfl ⟨Nat.le_of_ble_eq_true rfl, Nat.le_of_ble_eq_true rfl⟩ hf0 rfl (Nat.le_of_ble_eq_true rfl) zd_P_matchLength_29 rfl ?_
      refine G_aload_n F zd_P_matchLength_32 rfl (j := 0) rfl ?_
      refine G_get F fa_P_21_P (q := 5) zd_P_matchLength_33 rfl rfl ?_
      refine G_iload_n F zd_P_matchLength_36 rfl (j := 2) rfl ?_
      refine G_iload F zd_P_matchLength_37 (j := 4) rfl ?_
      refine G_iadd F zd_P_matchLength_39 ?_
      obtain ⟨v5, hc40, h⟩ := bc1_s h
      refine G_calliV0 F (zk_H_byteAt l D cB cI cJ pa pb qa qb ha pn pl pf qn ql qf (i2 + v3) v5 hc40) (rest := [.int v4]) [0, 1, 2, 3, 4] rfl rfl (q0 := 4) rfl cv_P_84_H rfl rfl ⟨Nat.le_of_ble_eq_true rfl, Nat.le_of_ble_eq_true rfl⟩ hf0 rfl (Nat.le_of_ble_eq_true rfl) zd_P_matchLength_40 rfl ?_
      refine G_icmp_ne F zd_P_matchLength_43 (tgt := 52) rfl (fun h0 => ?_) (fun h0 => ?_)
      · have h := iN h h0
        have q1 := Option.some.inj h
        subst q1
        exact G_lv [0, 1, 2, 3, 4] rfl hx
      · have h := iP h h0
        obtain ⟨v6, ev6, h⟩ := bnd_s h
        refine G_iinc F zd_P_matchLength_46 (j := 4) rfl (w := (1 : Int32)) (by decide) ev6 (by decide) (L' := [(4, .int v6), (0, .ref ka), (1, .int i1), (2, .int i2), (3, .int v2)]) rfl ?_
        refine G_goto F zd_P_matchLength_49 (tgt := 15) rfl ?_
        exact G_lv [1, 2, 3, 4, 0] rfl (ih _ _ h hx)
set_option maxHeartbeats 4000000 in
set_option maxRecDepth 100000 in
theorem zk_P_matchLength (l : Launch) (D : va_G) (cB cI cJ : ClassId) (pa : Nat) (pb : Nat) (qa : Nat) (qb : Nat) (ka : Nat) (ha : Nat) (ta : Nat) (pn : Int32) (pl : Nat) (pf : Nat → Int32) (qn : Int32) (ql : Nat) (qf : Nat → Int32) (tf : Nat → Int32) (an : Int32) (mt : Int32) (co : Int32) (i1 : Int32) (i2 : Int32) (r : Int32) (h : zf_P_matchLength pn pl pf qn ql qf i1 i2 = some r) : CoI l zy_P_matchLength zw_P_matchLength { frames := 2, cells := 0, slots := 0, locals := 42 } D cB cI cJ [.ref ka, .int i1, .int i2] [(pa, .inr (4, [.ref pb, .int pn])), (pb, .inl (cB, pl, .inl pf)), (qa, .inr (4, [.ref qb, .int qn])), (qb, .inl (cB, ql, .inl qf)), (ha, .inr (2, [.ref pa, .ref qa])), (ka, .inr (3, [.ref pa, .ref qa, .ref ha, .ref ta, .int an, .int mt, .int co])), (ta, .inl (cI, 32, .inl tf))] r [(pa, .inr (4, [.ref pb, .int pn])), (pb, .inl (cB, pl, .inl pf)), (qa, .inr (4, [.ref qb, .int qn])), (qb, .inl (cB, ql, .inl qf)), (ha, .inr (2, [.ref pa, .ref qa])), (ka, .inr (3, [.ref pa, .ref qa, .ref ha, .ref ta, .int an, .int mt, .int co])), (ta, .inl (cI, 32, .inl tf))] := by
  unfold zf_P_matchLength at h
  refine CoI.ofG (cc := zc_P_matchLength) (maxL := 5) (own := RX3) (by decide) rfl rfl rfl trivial (Nat.le_of_ble_eq_true rfl) (L0 := [(0, .ref ka), (1, .int i1), (2, .int i2)]) rfl (fun k F E => ?_)
  refine G_aload_n F zd_P_matchLength_0 rfl (j := 0) rfl ?_
  refine G_get F fa_P_21_P (q := 5) zd_P_matchLength_1 rfl rfl ?_
  obtain ⟨v1, hc4, h⟩ := bc1_s h
  refine G_calliV0 F (zk_H_length l D cB cI cJ pa pb qa qb ha pn pl pf qn ql qf v1 hc4) (rest := []) [0, 1, 2, 3, 4] rfl rfl (q0 := 4) rfl cv_P_80_H rfl rfl ⟨Nat.le_of_ble_eq_true rfl, Nat.le_of_ble_eq_true rfl⟩ hf0 rfl (Nat.le_of_ble_eq_true rfl) zd_P_matchLength_4 rfl ?_
  refine G_iconst (v := (5 : Int32)) F zd_P_matchLength_7 (by decide) ?_
  refine G_isub F zd_P_matchLength_8 ?_
  refine G_iload_n F zd_P_matchLength_9 rfl (j := 2) rfl ?_
  refine G_isub F zd_P_matchLength_10 ?_
  obtain ⟨v2, ev2, h⟩ := bnd_s h
  refine G_topi ev2 ?_
  refine G_istore_n F zd_P_matchLength_11 rfl (by decide) (L' := [(3, .int v2), (0, .ref ka), (1, .int i1), (2, .int i2)]) rfl ?_
  refine G_iconst (v := (0 : Int32)) F zd_P_matchLength_12 (by decide) ?_
  refine G_istore F zd_P_matchLength_13 (by decide) (L' := [(4, .int (0 : Int32)), (3, .int v2), (0, .ref ka), (1, .int i1), (2, .int i2)]) rfl ?_
  obtain ⟨x7, hl15, h⟩ := bc1_s h
  refine G_lv [2, 3, 4, 1, 0] rfl (zl_P_matchLength_15 F pn pl pf qn ql qf tf an mt co i1 i2 pa pb qa qb ka ha ta v2 1000 (0 : Int32) x7 hl15 ?_)
  refine G_iload F zd_P_matchLength_52 (j := 4) rfl ?_
  have q1 := Option.some.inj h
  subst q1
  exact E 54 _ zd_P_matchLength_54

set_option maxHeartbeats 4000000 in
set_option maxRecDepth 100000 in
theorem zl_SW_writeSum_12 {k : GC} {l : Launch} {D : va_G} {cB cI cJ : ClassId} (F : GF k l { frames := 1, cells := 0, slots := 0, locals := 21 } zc_SW_writeSum 3 RX7 D cB cI cJ) (qn : Int32) (ql : Nat) (qf : Nat → Int32) (ol : Nat) (i1 : Int32) (qa : Nat) (qb : Nat) (oa : Nat) (ob : Nat) (wa : Nat) : ∀ (n : Nat) (v2 : Int32) (v3 : Int32) (v4 : Nat → Int32) (w2 : Int32) (w3 : Int32) (w4 : Nat → Int32), zf_SW_writeSum_L12 ol n v2 v3 v4 = some (w2, w3, w4) → G D 3 k 0 0 38 [(0, .ref wa), (1, .int i1), (2, .int w2)] [] [(qa, .inr (4, [.ref qb, .int qn])), (qb, .inl (cB, ql, .inl qf)), (oa, .inr (4, [.ref ob, .int w3])), (ob, .inl (cB, ol, .inl w4)), (wa, .inr (6, [.ref qa, .ref oa]))] → G D 3 k 0 0 12 [(0, .ref wa), (1, .int i1), (2, .int v2)] [] [(qa, .inr (4, [.ref qb, .int qn])), (qb, .inl (cB, ql, .inl qf)), (oa, .inr (4, [.ref ob, .int v3])), (ob, .inl (cB, ol, .inl v4)), (wa, .inr (6, [.ref qa, .ref oa]))] := by
  intro n
  induction n with
  | zero =>
    intro v2 v3 v4 w2 w3 w4 h
    rw [zf_SW_writeSum_L12_0] at h
    cases h
  | succ n ih =>
    intro v2 v3 v4 w2 w3 w4 h hx
    have h := (zf_SW_writeSum_L12_s ol n v2 v3 v4).symm.trans h
    refine G_iload_n F zd_SW_writeSum_12 rfl (j := 2) rfl ?_
    refine G_sipush (v := (255 : Int32)) F zd_SW_writeSum_13 (by decide) ?_
    refine G_icmp_lt F zd_SW_writeSum_16 (tgt := 38) rfl (fun h0 => ?_) (fun h0 => ?_)
    · have h := iP h h0
      obtain ⟨q1, q2, q3⟩ := inj3 h
      subst q1
      subst q2
      subst q3
      exact G_lv [0, 1, 2] rfl hx
    · have h := iN h h0
      refine G_aload_n F zd_SW_writeSum_19 rfl (j := 0) rfl ?_
      refine G_get F fa_SW_7_SW (q := 4) zd_SW_writeSum_20 rfl rfl ?_
      refine G_sipush (v := (255 : Int32)) F zd_SW_writeSum_23 (by decide) ?_
      obtain ⟨v5, v6, hc26, h⟩ := bc2_s h
      refine G_callvV F (zk_R_add l D cB cI cJ oa ob v3 ol v4 (255 : Int32) v5 v6 hc26) (rest := []) [2, 3] rfl rfl rfl (ws' := [(qa, .inr (4, [.ref qb, .int qn])), (qb, .inl (cB, ql, .inl qf)), (oa, .inr (4, [.ref ob, .int v5])), (ob, .inl (cB, ol, .inl v6)), (wa, .inr (6, [.ref qa, .ref oa]))]) rfl (q0 := 2) rfl cv_SW_29_R rfl rfl ⟨Nat.le_of_ble_eq_true rfl, Nat.le_of_ble_eq_true rfl⟩ hf0 rfl (Nat.le_of_ble_eq_true rfl) zd_SW_writeSum_26 rfl ?_
      obtain ⟨v7, ev7, h⟩ := bnd_s h
      refine G_iinc_w F zd_SW_writeSum_29 (j := 2) rfl (w := (-255 : Int32)) (by decide) ev7 (by decide) (L' := [(2, .int v7), (0, .ref wa), (1, .int i1)]) rfl ?_
      refine G_goto F zd_SW_writeSum_35 (tgt := 12) rfl ?_
      exact G_lv [1, 2, 0] rfl (ih _ _ _ _ _ _ h hx)
set_option maxHeartbeats 4000000 in
set_option maxRecDepth 100000 in
theorem zk_SW_writeSum (l : Launch) (D : va_G) (cB cI cJ : ClassId) (qa : Nat) (qb : Nat) (oa : Nat) (ob : Nat) (wa : Nat) (qn : Int32) (ql : Nat) (qf : Nat → Int32) (on : Int32) (ol : Nat) (of : Nat → Int32) (i1 : Int32) (on' : Int32) (of' : Nat → Int32) (h : zf_SW_writeSum on ol of i1 = some (on', of')) : CoV l zy_SW_writeSum zw_SW_writeSum { frames := 1, cells := 0, slots := 0, locals := 21 } D cB cI cJ [.ref wa, .int i1] [(qa, .inr (4, [.ref qb, .int qn])), (qb, .inl (cB, ql, .inl qf)), (oa, .inr (4, [.ref ob, .int on])), (ob, .inl (cB, ol, .inl of)), (wa, .inr (6, [.ref qa, .ref oa]))] [(qa, .inr (4, [.ref qb, .int qn])), (qb, .inl (cB, ql, .inl qf)), (oa, .inr (4, [.ref ob, .int on'])), (ob, .inl (cB, ol, .inl of')), (wa, .inr (6, [.ref qa, .ref oa]))] := by
  unfold zf_SW_writeSum at h
  refine CoV.ofG (cc := zc_SW_writeSum) (maxL := 3) (own := RX7) (by decide) rfl rfl rfl trivial (Nat.le_of_ble_eq_true rfl) (L0 := [(0, .ref wa), (1, .int i1)]) rfl (fun k F E => ?_)
  refine G_iload_n F zd_SW_writeSum_0 rfl (j := 1) rfl ?_
  refine G_bipush (v := (15 : Int32)) F zd_SW_writeSum_1 (by decide) ?_
  refine G_icmp_ge F zd_SW_writeSum_3 (tgt := 7) rfl (fun h0 => ?_) (fun h0 => ?_)
  · have h := iP h h0
    refine G_iload_n F zd_SW_writeSum_7 rfl (j := 1) rfl ?_
    refine G_bipush (v := (15 : Int32)) F zd_SW_writeSum_8 (by decide) ?_
    refine G_isub F zd_SW_writeSum_10 ?_
    obtain ⟨v1, ev1, h⟩ := bnd_s h
    refine G_topi ev1 ?_
    refine G_istore_n F zd_SW_writeSum_11 rfl (by decide) (L' := [(2, .int v1), (0, .ref wa), (1, .int i1)]) rfl ?_
    obtain ⟨x8, x9, x10, hl12, h⟩ := bc3_s h
    refine G_lv [1, 2, 0] rfl (zl_SW_writeSum_12 F qn ql qf ol i1 qa qb oa ob wa 1000 v1 on of x8 x9 x10 hl12 ?_)
    refine G_aload_n F zd_SW_writeSum_38 rfl (j := 0) rfl ?_
    refine G_get F fa_SW_7_SW (q := 4) zd_SW_writeSum_39 rfl rfl ?_
    refine G_iload_n F zd_SW_writeSum_42 rfl (j := 2) rfl ?_
    obtain ⟨v11, v12, hc43, h⟩ := bc2_s h
    refine G_callvV F (zk_R_add l D cB cI cJ oa ob x9 ol x10 x8 v11 v12 hc43) (rest := []) [2, 3] rfl rfl rfl (ws' := [(qa, .inr (4, [.ref qb, .int qn])), (qb, .inl (cB, ql, .inl qf)), (oa, .inr (4, [.ref ob, .int v11])), (ob, .inl (cB, ol, .inl v12)), (wa, .inr (6, [.ref qa, .ref oa]))]) rfl (q0 := 2) rfl cv_SW_29_R rfl rfl ⟨Nat.le_of_ble_eq_true rfl, Nat.le_of_ble_eq_true rfl⟩ hf0 rfl (Nat.le_of_ble_eq_true rfl) zd_SW_writeSum_43 rfl ?_
    obtain ⟨q1, q2⟩ := inj2 h
    subst q1
    subst q2
    exact E 46 _ zd_SW_writeSum_46
  · have h := iN h h0
    obtain ⟨q1, q2⟩ := inj2 h
    subst q1
    subst q2
    exact E 6 _ zd_SW_writeSum_6

set_option maxHeartbeats 4000000 in
set_option maxRecDepth 100000 in
theorem zl_W_writePlain_S_2 {k : GC} {l : Launch} {D : va_G} {cB cI cJ : ClassId} (F : GF k l { frames := 1, cells := 0, slots := 0, locals := 21 } zc_W_writePlain 4 RX8 D cB cI cJ) (qn : Int32) (ql : Nat) (qf : Nat → Int32) (ol : Nat) (i1 : Int32) (i2 : Int32) (qa : Nat) (qb : Nat) (oa : Nat) (ob : Nat) (wa : Nat) : ∀ (n : Nat) (v1 : Int32) (v2 : Int32) (v3 : Nat → Int32) (w1 : Int32) (w2 : Int32) (w3 : Nat → Int32), zf_W_writePlain_L2 qn ql qf ol i2 n v1 v2 v3 = some (w1, w2, w3) → G D 4 k 0 0 28 [(0, .ref wa), (1, .int i1), (2, .int i2), (3, .int w1)] [] [(qa, .inr (4, [.ref qb, .int qn])), (qb, .inl (cB, ql, .inl qf)), (oa, .inr (4, [.ref ob, .int w2])), (ob, .inl (cB, ol, .inl w3)), (wa, .inr (6, [.ref qa, .ref oa]))] → G D 4 k 0 0 2 [(0, .ref wa), (1, .int i1), (2, .int i2), (3, .int v1)] [] [(qa, .inr (4, [.ref qb, .int qn])), (qb, .inl (cB, ql, .inl qf)), (oa, .inr (4, [.ref ob, .int v2])), (ob, .inl (cB, ol, .inl v3)), (wa, .inr (6, [.ref qa, .ref oa]))] := by
  intro n
  induction n with
  | zero =>
    intro v1 v2 v3 w1 w2 w3 h
    rw [zf_W_writePlain_L2_0] at h
    cases h
  | succ n ih =>
    intro v1 v2 v3 w1 w2 w3 h hx
    have h := (zf_W_writePlain_L2_s qn ql qf ol i2 n v1 v2 v3).symm.trans h
    refine G_iload_n F zd_W_writePlain_2 rfl (j := 3) rfl ?_
    refine G_iload_n F zd_W_writePlain_3 rfl (j := 2) rfl ?_
    refine G_icmp_ge F zd_W_writePlain_4 (tgt := 28) rfl (fun h0 => ?_) (fun h0 => ?_)
    · have h := iP h h0
      obtain ⟨q1, q2, q3⟩ := inj3 h
      subst q1
      subst q2
      subst q3
      exact G_lv [0, 1, 2, 3] rfl hx
    · have h := iN h h0
      refine G_aload_n F zd_W_writePlain_7 rfl (j := 0) rfl ?_
      refine G_get F fa_W_13_SW (q := 4) zd_W_writePlain_8 rfl rfl ?_
      refine G_aload_n F zd_W_writePlain_11 rfl (j := 0) rfl ?_
      refine G_get F fa_W_7_SW (q := 4) zd_W_writePlain_12 rfl rfl ?_
      refine G_iload_n F zd_W_writePlain_15 rfl (j := 3) rfl ?_
      obtain ⟨v4, hc16, h⟩ := bc1_s h
      refine G_calliV0 F (zk_R_byteAt l D cB cI cJ qa qb qn ql qf v1 v4 hc16) (rest := [.ref oa]) [0, 1] rfl rfl (q0 := 0) rfl cv_W_16_R rfl rfl ⟨Nat.le_of_ble_eq_true rfl, Nat.le_of_ble_eq_true rfl⟩ hf0 rfl (Nat.le_of_ble_eq_true rfl) zd_W_writePlain_16 rfl ?_
      obtain ⟨v5, v6, hc19, h⟩ := bc2_s h
      refine G_callvV F (zk_R_add l D cB cI cJ oa ob v2 ol v3 v4 v5 v6 hc19) (rest := []) [2, 3] rfl rfl rfl (ws' := [(qa, .inr (4, [.ref qb, .int qn])), (qb, .inl (cB, ql, .inl qf)), (oa, .inr (4, [.ref ob, .int v5])), (ob, .inl (cB, ol, .inl v6)), (wa, .inr (6, [.ref qa, .ref oa]))]) rfl (q0 := 2) rfl cv_W_22_R rfl rfl ⟨Nat.le_of_ble_eq_true rfl, Nat.le_of_ble_eq_true rfl⟩ hf0 rfl (Nat.le_of_ble_eq_true rfl) zd_W_writePlain_19 rfl ?_
      obtain ⟨v7, ev7, h⟩ := bnd_s h
      refine G_iinc F zd_W_writePlain_22 (j := 3) rfl (w := (1 : Int32)) (by decide) ev7 (by decide) (L' := [(3, .int v7), (0, .ref wa), (1, .int i1), (2, .int i2)]) rfl ?_
      refine G_goto F zd_W_writePlain_25 (tgt := 2) rfl ?_
      exact G_lv [1, 2, 3, 0] rfl (ih _ _ _ _ _ _ h hx)
set_option maxHeartbeats 4000000 in
set_option maxRecDepth 100000 in
theorem zk_W_writePlain_S (l : Launch) (D : va_G) (cB cI cJ : ClassId) (qa : Nat) (qb : Nat) (oa : Nat) (ob : Nat) (wa : Nat) (qn : Int32) (ql : Nat) (qf : Nat → Int32) (on : Int32) (ol : Nat) (of : Nat → Int32) (i1 : Int32) (i2 : Int32) (on' : Int32) (of' : Nat → Int32) (h : zf_W_writePlain qn ql qf on ol of i1 i2 = some (on', of')) : CoV l zy_W_writePlain zw_W_writePlain { frames := 1, cells := 0, slots := 0, locals := 21 } D cB cI cJ [.ref wa, .int i1, .int i2] [(qa, .inr (4, [.ref qb, .int qn])), (qb, .inl (cB, ql, .inl qf)), (oa, .inr (4, [.ref ob, .int on])), (ob, .inl (cB, ol, .inl of)), (wa, .inr (6, [.ref qa, .ref oa]))] [(qa, .inr (4, [.ref qb, .int qn])), (qb, .inl (cB, ql, .inl qf)), (oa, .inr (4, [.ref ob, .int on'])), (ob, .inl (cB, ol, .inl of')), (wa, .inr (6, [.ref qa, .ref oa]))] := by
  unfold zf_W_writePlain at h
  refine CoV.ofG (cc := zc_W_writePlain) (maxL := 4) (own := RX8) (by decide) rfl rfl rfl trivial (Nat.le_of_ble_eq_true rfl) (L0 := [(0, .ref wa), (1, .int i1), (2, .int i2)]) rfl (fun k F E => ?_)
  refine G_iload_n F zd_W_writePlain_0 rfl (j := 1) rfl ?_
  refine G_istore_n F zd_W_writePlain_1 rfl (by decide) (L' := [(3, .int i1), (0, .ref wa), (1, .int i1), (2, .int i2)]) rfl ?_
  obtain ⟨x8, x9, x10, hl2, h⟩ := bc3_s h
  refine G_lv [1, 2, 3, 0] rfl (zl_W_writePlain_S_2 F qn ql qf ol i1 i2 qa qb oa ob wa 1000 i1 on of x8 x9 x10 hl2 ?_)
  obtain ⟨q1, q2⟩ := inj2 h
  subst q1
  subst q2
  exact E 28 _ zd_W_writePlain_28

set_option maxHeartbeats 4000000 in
set_option maxRecDepth 100000 in
theorem zk_SW_writeLiterals (l : Launch) (D : va_G) (cB cI cJ : ClassId) (qa : Nat) (qb : Nat) (oa : Nat) (ob : Nat) (wa : Nat) (qn : Int32) (ql : Nat) (qf : Nat → Int32) (on : Int32) (ol : Nat) (of : Nat → Int32) (i1 : Int32) (i2 : Int32) (i3 : Int32) (on' : Int32) (of' : Nat → Int32) (h : zf_SW_writeLiterals qn ql qf on ol of i1 i2 i3 = some (on', of')) : CoV l zy_SW_writeLiterals zw_SW_writeLiterals { frames := 2, cells := 0, slots := 0, locals := 44 } D cB cI cJ [.ref wa, .int i1, .int i2, .int i3] [(qa, .inr (4, [.ref qb, .int qn])), (qb, .inl (cB, ql, .inl qf)), (oa, .inr (4, [.ref ob, .int on])), (ob, .inl (cB, ol, .inl of)), (wa, .inr (6, [.ref qa, .ref oa]))] [(qa, .inr (4, [.ref qb, .int qn])), (qb, .inl (cB, ql, .inl qf)), (oa, .inr (4, [.ref ob, .int on'])), (ob, .inl (cB, ol, .inl of')), (wa, .inr (6, [.ref qa, .ref oa]))] := by
  unfold zf_SW_writeLiterals at h
  refine CoV.ofG (cc := zc_SW_writeLiterals) (maxL := 5) (own := RX7) (by decide) rfl rfl rfl trivial (Nat.le_of_ble_eq_true rfl) (L0 := [(0, .ref wa), (1, .int i1), (2, .int i2), (3, .int i3)]) rfl (fun k F E => ?_)
  refine G_iload_n F zd_SW_writeLiterals_0 rfl (j := 2) rfl ?_
  refine G_iload_n F zd_SW_writeLiterals_1 rfl (j := 1) rfl ?_
  refine G_isub F zd_SW_writeLiterals_2 ?_
  obtain ⟨v1, ev1, h⟩ := bnd_s h
  refine G_topi ev1 ?_
  refine G_istore F zd_SW_writeLiterals_3 (by decide) (L' := [(4, .int v1), (0, .ref wa), (1, .int i1), (2, .int i2), (3, .int i3)]) rfl ?_
  refine G_aload_n F zd_SW_writeLiterals_5 rfl (j := 1) rfl ?_
  refine G_get F fa_SW_7_SW (q := 4) zd_SW_writeLiterals_6 rfl rfl ?_
  refine G_iload F zd_SW_writeLiterals_9 (j := 0) rfl ?_
  refine G_bipush (v := (15 : Int32)) F zd_SW_writeLiterals_11 (by decide) ?_
  obtain ⟨v2, ev2, h⟩ := bnd_s h
  refine G_mmin F cm_SW_19 zd_SW_writeLiterals_13 ev2 (by decide) hf0 (Nat.le_of_ble_eq_true rfl) ?_
  refine G_iconst (v := (4 : Int32)) F zd_SW_writeLiterals_16 (by decide) ?_
  refine G_ishl F zd_SW_writeLiterals_17 ?_
  refine G_iload_n F zd_SW_writeLiterals_18 rfl (j := 4) rfl ?_
  refine G_ior F zd_SW_writeLiterals_19 ?_
  obtain ⟨v3, v4, hc20, h⟩ := bc2_s h
  refine G_callvV F (zk_R_add l D cB cI cJ oa ob on ol of ((v2 <<< ((4 : Int32) &&& 31)) ||| i3) v3 v4 hc20) (rest := []) [2, 3] rfl rfl rfl (ws' := [(qa, .inr (4, [.ref qb, .int qn])), (qb, .inl (cB, ql, .inl qf)), (oa, .inr (4, [.ref ob, .int v3])), (ob, .inl (cB, ol, .inl v4)), (wa, .inr (6, [.ref qa, .ref oa]))]) rfl (q0 := 2) rfl cv_SW_29_R rfl rfl ⟨Nat.le_of_ble_eq_true rfl, Nat.le_of_ble_eq_true rfl⟩ hf0 rfl (Nat.le_of_ble_eq_true rfl) zd_SW_writeLiterals_20 rfl ?_
  refine G_aload_n F zd_SW_writeLiterals_23 rfl (j := 1) rfl ?_
  refine G_iload F zd_SW_writeLiterals_24 (j := 0) rfl ?_
  obtain ⟨v5, v6, hc26, h⟩ := bc2_s h
  refine G_callvV F (zk_SW_writeSum l D cB cI cJ qa qb oa ob wa qn ql qf v3 ol v4 v1 v5 v6 hc26) (rest := []) [0, 1, 2, 3, 4] rfl rfl rfl (ws' := [(qa, .inr (4, [.ref qb, .int qn])), (qb, .inl (cB, ql, .inl qf)), (oa, .inr (4, [.ref ob, .int v5])), (ob, .inl (cB, ol, .inl v6)), (wa, .inr (6, [.ref qa, .ref oa]))]) rfl (q0 := 4) rfl cv_SW_33_SW rfl rfl ⟨Nat.le_of_ble_eq_true rfl, Nat.le_of_ble_eq_true rfl⟩ hf0 rfl (Nat.le_of_ble_eq_true rfl) zd_SW_writeLiterals_26 rfl ?_
  refine G_aload_n F zd_SW_writeLiterals_29 rfl (j := 1) rfl ?_
  refine G_iload_n F zd_SW_writeLiterals_30 rfl (j := 2) rfl ?_
  refine G_iload_n F zd_SW_writeLiterals_31 rfl (j := 3) rfl ?_
  obtain ⟨v7, v8, hc32, h⟩ := bc2_s h
  refine G_callvU F (zk_W_writePlain_S l D cB cI cJ qa qb oa ob wa qn ql qf v5 ol v6 i1 i2 v7 v8 hc32) (rest := []) [0, 1, 2, 3, 4] rfl rfl rfl (ws' := [(qa, .inr (4, [.ref qb, .int qn])), (qb, .inl (cB, ql, .inl qf)), (oa, .inr (4, [.ref ob, .int v7])), (ob, .inl (cB, ol, .inl v8)), (wa, .inr (6, [.ref qa, .ref oa]))]) rfl (q0 := 4) rfl (x := ⟨"PressSuite$SequenceWriter", "writePlain", "(II)V"⟩) cv_SW_43_SW rfl rfl ⟨Nat.le_of_ble_eq_true rfl, Nat.le_of_ble_eq_true rfl⟩ hf0 rfl (Nat.le_of_ble_eq_true rfl) zd_SW_writeLiterals_32 rfl ?_
  obtain ⟨q1, q2⟩ := inj2 h
  subst q1
  subst q2
  exact E 35 _ zd_SW_writeLiterals_35

set_option maxHeartbeats 4000000 in
set_option maxRecDepth 100000 in
theorem zk_SW_match (l : Launch) (D : va_G) (cB cI cJ : ClassId) (qa : Nat) (qb : Nat) (oa : Nat) (ob : Nat) (wa : Nat) (qn : Int32) (ql : Nat) (qf : Nat → Int32) (on : Int32) (ol : Nat) (of : Nat → Int32) (i1 : Int32) (i2 : Int32) (i3 : Int32) (i4 : Int32) (on' : Int32) (of' : Nat → Int32) (h : zf_SW_match qn ql qf on ol of i1 i2 i3 i4 = some (on', of')) : CoV l zy_SW_match zw_SW_match { frames := 3, cells := 0, slots := 0, locals := 68 } D cB cI cJ [.ref wa, .int i1, .int i2, .int i3, .int i4] [(qa, .inr (4, [.ref qb, .int qn])), (qb, .inl (cB, ql, .inl qf)), (oa, .inr (4, [.ref ob, .int on])), (ob, .inl (cB, ol, .inl of)), (wa, .inr (6, [.ref qa, .ref oa]))] [(qa, .inr (4, [.ref qb, .int qn])), (qb, .inl (cB, ql, .inl qf)), (oa, .inr (4, [.ref ob, .int on'])), (ob, .inl (cB, ol, .inl of')), (wa, .inr (6, [.ref qa, .ref oa]))] := by
  unfold zf_SW_match at h
  refine CoV.ofG (cc := zc_SW_match) (maxL := 6) (own := RX7) (by decide) rfl rfl rfl trivial (Nat.le_of_ble_eq_true rfl) (L0 := [(0, .ref wa), (1, .int i1), (2, .int i2), (3, .int i3), (4, .int i4)]) rfl (fun k F E => ?_)
  refine G_iload F zd_SW_match_0 (j := 4) rfl ?_
  refine G_iconst (v := (4 : Int32)) F zd_SW_match_2 (by decide) ?_
  refine G_isub F zd_SW_match_3 ?_
  obtain ⟨v1, ev1, h⟩ := bnd_s h
  refine G_topi ev1 ?_
  refine G_istore F zd_SW_match_4 (by decide) (L' := [(5, .int v1), (0, .ref wa), (1, .int i1), (2, .int i2), (3, .int i3), (4, .int i4)]) rfl ?_
  refine G_aload_n F zd_SW_match_6 rfl (j := 1) rfl ?_
  refine G_iload_n F zd_SW_match_7 rfl (j := 2) rfl ?_
  refine G_iload_n F zd_SW_match_8 rfl (j := 3) rfl ?_
  refine G_iload F zd_SW_match_9 (j := 0) rfl ?_
  refine G_bipush (v := (15 : Int32)) F zd_SW_match_11 (by decide) ?_
  obtain ⟨v2, ev2, h⟩ := bnd_s h
  refine G_mmin F cm_SW_19 zd_SW_match_13 ev2 (by decide) hf0 (Nat.le_of_ble_eq_true rfl) ?_
  obtain ⟨v3, v4, hc16, h⟩ := bc2_s h
  refine G_callvV F (zk_SW_writeLiterals l D cB cI cJ qa qb oa ob wa qn ql qf on ol of i1 i2 v2 v3 v4 hc16) (rest := []) [0, 1, 2, 3, 4] rfl rfl rfl (ws' := [(qa, .inr (4, [.ref qb, .int qn])), (qb, .inl (cB, ql, .inl qf)), (oa, .inr (4, [.ref ob, .int v3])), (ob, .inl (cB, ol, .inl v4)), (wa, .inr (6, [.ref qa, .ref oa]))]) rfl (q0 := 4) rfl cv_SW_25_SW rfl rfl ⟨Nat.le_of_ble_eq_true rfl, Nat.le_of_ble_eq_true rfl⟩ hf0 rfl (Nat.le_of_ble_eq_true rfl) zd_SW_match_16 rfl ?_
  refine G_aload_n F zd_SW_match_19 rfl (j := 1) rfl ?_
  refine G_get F fa_SW_7_SW (q := 4) zd_SW_match_20 rfl rfl ?_
  refine G_iload_n F zd_SW_match_23 rfl (j := 4) rfl ?_
  obtain ⟨v5, v6, hc24, h⟩ := bc2_s h
  refine G_callvV F (zk_R_add l D cB cI cJ oa ob v3 ol v4 i3 v5 v6 hc24) (rest := []) [2, 3] rfl rfl rfl (ws' := [(qa, .inr (4, [.ref qb, .int qn])), (qb, .inl (cB, ql, .inl qf)), (oa, .inr (4, [.ref ob, .int v5])), (ob, .inl (cB, ol, .inl v6)), (wa, .inr (6, [.ref qa, .ref oa]))]) rfl (q0 := 2) rfl cv_SW_29_R rfl rfl ⟨Nat.le_of_ble_eq_true rfl, Nat.le_of_ble_eq_true rfl⟩ hf0 rfl (Nat.le_of_ble_eq_true rfl) zd_SW_match_24 rfl ?_
  refine G_aload_n F zd_SW_match_27 rfl (j := 1) rfl ?_
  refine G_get F fa_SW_7_SW (q := 4) zd_SW_match_28 rfl rfl ?_
  refine G_iload_n F zd_SW_match_31 rfl (j := 4) rfl ?_
  refine G_bipush (v := (8 : Int32)) F zd_SW_match_32 (by decide) ?_
  refine G_ishr F zd_SW_match_34 ?_
  obtain ⟨v7, v8, hc35, h⟩ := bc2_s h
  refine G_callvV F (zk_R_add l D cB cI cJ oa ob v5 ol v6 (i3 >>> ((8 : Int32) &&& 31)) v7 v8 hc35) (rest := []) [2, 3] rfl rfl rfl (ws' := [(qa, .inr (4, [.ref qb, .int qn])), (qb, .inl (cB, ql, .inl qf)), (oa, .inr (4, [.ref ob, .int v7])), (ob, .inl (cB, ol, .inl v8)), (wa, .inr (6, [.ref qa, .ref oa]))]) rfl (q0 := 2) rfl cv_SW_29_R rfl rfl ⟨Nat.le_of_ble_eq_true rfl, Nat.le_of_ble_eq_true rfl⟩ hf0 rfl (Nat.le_of_ble_eq_true rfl) zd_SW_match_35 rfl ?_
  refine G_aload_n F zd_SW_match_38 rfl (j := 1) rfl ?_
  refine G_iload F zd_SW_match_39 (j := 0) rfl ?_
  obtain ⟨v9, v10, hc41, h⟩ := bc2_s h
  refine G_callvV F (zk_SW_writeSum l D cB cI cJ qa qb oa ob wa qn ql qf v7 ol v8 v1 v9 v10 hc41) (rest := []) [0, 1, 2, 3, 4] rfl rfl rfl (ws' := [(qa, .inr (4, [.ref qb, .int qn])), (qb, .inl (cB, ql, .inl qf)), (oa, .inr (4, [.ref ob, .int v9])), (ob, .inl (cB, ol, .inl v10)), (wa, .inr (6, [.ref qa, .ref oa]))]) rfl (q0 := 4) rfl cv_SW_33_SW rfl rfl ⟨Nat.le_of_ble_eq_true rfl, Nat.le_of_ble_eq_true rfl⟩ hf0 rfl (Nat.le_of_ble_eq_true rfl) zd_SW_match_41 rfl ?_
  obtain ⟨q1, q2⟩ := inj2 h
  subst q1
  subst q2
  exact E 44 _ zd_SW_match_44

set_option maxHeartbeats 4000000 in
set_option maxRecDepth 100000 in
theorem zk_P_copyFrom_S (l : Launch) (D : va_G) (cB cI cJ : ClassId) (pa : Nat) (pb : Nat) (qa : Nat) (qb : Nat) (ka : Nat) (ha : Nat) (ta : Nat) (oa : Nat) (ob : Nat) (wa : Nat) (pn : Int32) (pl : Nat) (pf : Nat → Int32) (qn : Int32) (ql : Nat) (qf : Nat → Int32) (tf : Nat → Int32) (an : Int32) (mt : Int32) (co : Int32) (i1 : Int32) (on : Int32) (ol : Nat) (of : Nat → Int32) (r : Int32) (an' : Int32) (mt' : Int32) (co' : Int32) (tf' : Nat → Int32) (on' : Int32) (of' : Nat → Int32) (h : zf_P_copyFrom_S pn pl pf qn ql qf tf an mt co i1 on ol of = some (r, an', mt', co', tf', on', of')) : CoI l zy_P_copyFrom zw_P_copyFrom { frames := 4, cells := 0, slots := 0, locals := 93 } D cB cI cJ [.ref ka, .int i1, .ref wa] [(pa, .inr (4, [.ref pb, .int pn])), (pb, .inl (cB, pl, .inl pf)), (qa, .inr (4, [.ref qb, .int qn])), (qb, .inl (cB, ql, .inl qf)), (ha, .inr (2, [.ref pa, .ref qa])), (ka, .inr (3, [.ref pa, .ref qa, .ref ha, .ref ta, .int an, .int mt, .int co])), (ta, .inl (cI, 32, .inl tf)), (oa, .inr (4, [.ref ob, .int on])), (ob, .inl (cB, ol, .inl of)), (wa, .inr (6, [.ref qa, .ref oa]))] r [(pa, .inr (4, [.ref pb, .int pn])), (pb, .inl (cB, pl, .inl pf)), (qa, .inr (4, [.ref qb, .int qn])), (qb, .inl (cB, ql, .inl qf)), (ha, .inr (2, [.ref pa, .ref qa])), (ka, .inr (3, [.ref pa, .ref qa, .ref ha, .ref ta, .int an', .int mt', .int co'])), (ta, .inl (cI, 32, .inl tf')), (oa, .inr (4, [.ref ob, .int on'])), (ob, .inl (cB, ol, .inl of')), (wa, .inr (6, [.ref qa, .ref oa]))] := by
  unfold zf_P_copyFrom_S at h
  refine CoI.ofG (cc := zc_P_copyFrom) (maxL := 6) (own := RX3) (by decide) rfl rfl rfl trivial (Nat.le_of_ble_eq_true rfl) (L0 := [(0, .ref ka), (1, .int i1), (2, .ref wa)]) rfl (fun k F E => ?_)
  refine G_aload_n F zd_P_copyFrom_0 rfl (j := 0) rfl ?_
  refine G_get F fa_P_7_P (q := 5) zd_P_copyFrom_1 rfl rfl ?_
  refine G_get F fa_P_47_R (q := 0) zd_P_copyFrom_4 rfl rfl ?_
  refine G_iload_n F zd_P_copyFrom_7 rfl (j := 1) rfl ?_
  refine G_iadd F zd_P_copyFrom_8 ?_
  obtain ⟨v1, ev1, h⟩ := bnd_s h
  refine G_topi ev1 ?_
  refine G_istore_n F zd_P_copyFrom_9 rfl (by decide) (L' := [(3, .int v1), (0, .ref ka), (1, .int i1), (2, .ref wa)]) rfl ?_
  refine G_aload_n F zd_P_copyFrom_10 rfl (j := 1) rfl ?_
  refine G_iload_n F zd_P_copyFrom_11 rfl (j := 0) rfl ?_
  obtain ⟨v2, v3, hc12, h⟩ := bc2_s h
  refine G_calliV F (zk_P_exchange l D cB cI cJ pa pb qa qb ka ha ta pn pl pf qn ql qf tf an mt co v1 v2 v3 hc12) (rest := []) [0, 1, 2, 3, 4, 5, 6] rfl rfl rfl (ws' := [(pa, .inr (4, [.ref pb, .int pn])), (pb, .inl (cB, pl, .inl pf)), (qa, .inr (4, [.ref qb, .int qn])), (qb, .inl (cB, ql, .inl qf)), (ha, .inr (2, [.ref pa, .ref qa])), (ka, .inr (3, [.ref pa, .ref qa, .ref ha, .ref ta, .int an, .int mt, .int co])), (ta, .inl (cI, 32, .inl v3)), (oa, .inr (4, [.ref ob, .int on])), (ob, .inl (cB, ol, .inl of)), (wa, .inr (6, [.ref qa, .ref oa]))]) rfl (q0 := 5) rfl cv_P_66_P rfl rfl ⟨Nat.le_of_ble_eq_true rfl, Nat.le_of_ble_eq_true rfl⟩ hf0 rfl (Nat.le_of_ble_eq_true rfl) zd_P_copyFrom_12 rfl ?_
  refine G_istore F zd_P_copyFrom_15 (by decide) (L' := [(4, .int v2), (3, .int v1), (0, .ref ka), (1, .int i1), (2, .ref wa)]) rfl ?_
  refine G_iload F zd_P_copyFrom_17 (j := 0) rfl ?_
  refine G_iconst (v := (-1 : Int32)) F zd_P_copyFrom_19 (by decide) ?_
  refine G_icmp_eq F zd_P_copyFrom_20 (tgt := 43) rfl (fun h0 => ?_) (fun h0 => ?_)
  · have h := iP h h0
    refine G_iconst (v := (0 : Int32)) F zd_P_copyFrom_43 (by decide) ?_
    obtain ⟨q1, q2, q3, q4, q5, q6, q7⟩ := inj7 h
    subst q1
    subst q2
    subst q3
    subst q4
    subst q5
    subst q6
    subst q7
    exact E 44 _ zd_P_copyFrom_44
  · have h := iN h h0
    refine G_aload_n F zd_P_copyFrom_23 rfl (j := 2) rfl ?_
    refine G_get F fa_P_21_P (q := 5) zd_P_copyFrom_24 rfl rfl ?_
    refine G_iload F zd_P_copyFrom_27 (j := 0) rfl ?_
    obtain ⟨v4, hc29, h⟩ := bc1_s h
    refine G_calliV0 F (zk_H_intAt l D cB cI cJ pa pb qa qb ha pn pl pf qn ql qf v2 v4 hc29) (rest := []) [0, 1, 2, 3, 4] rfl rfl (q0 := 4) rfl cv_P_70_H rfl rfl ⟨Nat.le_of_ble_eq_true rfl, Nat.le_of_ble_eq_true rfl⟩ hf0 rfl (Nat.le_of_ble_eq_true rfl) zd_P_copyFrom_29 rfl ?_
    refine G_aload_n F zd_P_copyFrom_32 rfl (j := 2) rfl ?_
    refine G_get F fa_P_21_P (q := 5) zd_P_copyFrom_33 rfl rfl ?_
    refine G_iload_n F zd_P_copyFrom_36 rfl (j := 1) rfl ?_
    obtain ⟨v5, hc37, h⟩ := bc1_s h
    refine G_calliV0 F (zk_H_intAt l D cB cI cJ pa pb qa qb ha pn pl pf qn ql qf v1 v5 hc37) (rest := [.int v4]) [0, 1, 2, 3, 4] rfl rfl (q0 := 4) rfl cv_P_70_H rfl rfl ⟨Nat.le_of_ble_eq_true rfl, Nat.le_of_ble_eq_true rfl⟩ hf0 rfl (Nat.le_of_ble_eq_true rfl) zd_P_copyFrom_37 rfl ?_
    refine G_icmp_eq F zd_P_copyFrom_40 (tgt := 45) rfl (fun h0 => ?_) (fun h0 => ?_)
    · have h := iP h h0
      refine G_aload_n F zd_P_copyFrom_45 rfl (j := 2) rfl ?_
      refine G_iload F zd_P_copyFrom_46 (j := 0) rfl ?_
      refine G_iload_n F zd_P_copyFrom_48 rfl (j := 1) rfl ?_
      obtain ⟨v6, hc49, h⟩ := bc1_s h
      refine G_calliV0 F (zk_P_matchLength l D cB cI cJ pa pb qa qb ka ha ta pn pl pf qn ql qf v3 an mt co v2 v1 v6 hc49) (rest := []) [0, 1, 2, 3, 4, 5, 6] rfl rfl (q0 := 5) rfl cv_P_73_P rfl rfl ⟨Nat.le_of_ble_eq_true rfl, Nat.le_of_ble_eq_true rfl⟩ hf0 rfl (Nat.le_of_ble_eq_true rfl) zd_P_copyFrom_49 rfl ?_
      refine G_istore F zd_P_copyFrom_52 (by decide) (L' := [(5, .int v6), (4, .int v2), (3, .int v1), (0, .ref ka), (1, .int i1), (2, .ref wa)]) rfl ?_
      refine G_aload_n F zd_P_copyFrom_54 rfl (j := 5) rfl ?_
      refine G_aload_n F zd_P_copyFrom_55 rfl (j := 3) rfl ?_
      refine G_get F fa_P_29_P (q := 5) zd_P_copyFrom_56 rfl rfl ?_
      refine G_iload_n F zd_P_copyFrom_59 rfl (j := 4) rfl ?_
      refine G_iload_n F zd_P_copyFrom_60 rfl (j := 2) rfl ?_
      refine G_iload F zd_P_copyFrom_61 (j := 1) rfl ?_
      refine G_isub F zd_P_copyFrom_63 ?_
      refine G_iload F zd_P_copyFrom_64 (j := 0) rfl ?_
      obtain ⟨v7, v8, hc66, h⟩ := bc2_s h
      refine G_callvA F (zk_SW_match l D cB cI cJ qa qb oa ob wa qn ql qf on ol of an i1 (v1 - v2) v6 v7 v8 hc66) (rest := []) [2, 3, 7, 8, 9] rfl rfl rfl (ws' := [(pa, .inr (4, [.ref pb, .int pn])), (pb, .inl (cB, pl, .inl pf)), (qa, .inr (4, [.ref qb, .int qn])), (qb, .inl (cB, ql, .inl qf)), (ha, .inr (2, [.ref pa, .ref qa])), (ka, .inr (3, [.ref pa, .ref qa, .ref ha, .ref ta, .int an, .int mt, .int co])), (ta, .inl (cI, 32, .inl v3)), (oa, .inr (4, [.ref ob, .int v7])), (ob, .inl (cB, ol, .inl v8)), (wa, .inr (6, [.ref qa, .ref oa]))]) rfl (q0 := 9) rfl (x := ⟨"PressSuite$Writer", "match", "(IIII)V"⟩) cv_P_76_SW rfl rfl ⟨Nat.le_of_ble_eq_true rfl, Nat.le_of_ble_eq_true rfl⟩ hf0 rfl (Nat.le_of_ble_eq_true rfl) zd_P_copyFrom_66 rfl ?_
      refine G_aload_n F zd_P_copyFrom_69 rfl (j := 3) rfl ?_
      refine G_iload_n F zd_P_copyFrom_70 rfl (j := 4) rfl ?_
      refine G_iload F zd_P_copyFrom_71 (j := 0) rfl ?_
      refine G_iadd F zd_P_copyFrom_73 ?_
      obtain ⟨v9, ev9, h⟩ := bnd_s h
      refine G_topi ev9 ?_
      refine G_put F fp_P_29_P (q := 5) zd_P_copyFrom_74 rfl (Nat.le_of_ble_eq_true rfl) (ws' := [(pa, .inr (4, [.ref pb, .int pn])), (pb, .inl (cB, pl, .inl pf)), (qa, .inr (4, [.ref qb, .int qn])), (qb, .inl (cB, ql, .inl qf)), (ha, .inr (2, [.ref pa, .ref qa])), (ka, .inr (3, [.ref pa, .ref qa, .ref ha, .ref ta, .int v9, .int mt, .int co])), (ta, .inl (cI, 32, .inl v3)), (oa, .inr (4, [.ref ob, .int v7])), (ob, .inl (cB, ol, .inl v8)), (wa, .inr (6, [.ref qa, .ref oa]))]) rfl ?_
      refine G_aload_n F zd_P_copyFrom_77 rfl (j := 3) rfl ?_
      refine G_dup F zd_P_copyFrom_78 rfl ?_
      refine G_get F fa_P_33_P (q := 5) zd_P_copyFrom_79 rfl rfl ?_
      refine G_iconst (v := (1 : Int32)) F zd_P_copyFrom_82 (by decide) ?_
      refine G_iadd F zd_P_copyFrom_83 ?_
      obtain ⟨v10, ev10, h⟩ := bnd_s h
      refine G_topi ev10 ?_
      refine G_put F fp_P_33_P (q := 5) zd_P_copyFrom_84 rfl (Nat.le_of_ble_eq_true rfl) (ws' := [(pa, .inr (4, [.ref pb, .int pn])), (pb, .inl (cB, pl, .inl pf)), (qa, .inr (4, [.ref qb, .int qn])), (qb, .inl (cB, ql, .inl qf)), (ha, .inr (2, [.ref pa, .ref qa])), (ka, .inr (3, [.ref pa, .ref qa, .ref ha, .ref ta, .int v9, .int v10, .int co])), (ta, .inl (cI, 32, .inl v3)), (oa, .inr (4, [.ref ob, .int v7])), (ob, .inl (cB, ol, .inl v8)), (wa, .inr (6, [.ref qa, .ref oa]))]) rfl ?_
      refine G_aload_n F zd_P_copyFrom_87 rfl (j := 3) rfl ?_
      refine G_dup F zd_P_copyFrom_88 rfl ?_
      refine G_get F fa_P_36_P (q := 5) zd_P_copyFrom_89 rfl rfl ?_
      refine G_iload F zd_P_copyFrom_92 (j := 0) rfl ?_
      refine G_iadd F zd_P_copyFrom_94 ?_
      obtain ⟨v11, ev11, h⟩ := bnd_s h
      refine G_topi ev11 ?_
      refine G_put F fp_P_36_P (q := 5) zd_P_copyFrom_95 rfl (Nat.le_of_ble_eq_true rfl) (ws' := [(pa, .inr (4, [.ref pb, .int pn])), (pb, .inl (cB, pl, .inl pf)), (qa, .inr (4, [.ref qb, .int qn])), (qb, .inl (cB, ql, .inl qf)), (ha, .inr (2, [.ref pa, .ref qa])), (ka, .inr (3, [.ref pa, .ref qa, .ref ha, .ref ta, .int v9, .int v10, .int v11])), (ta, .inl (cI, 32, .inl v3)), (oa, .inr (4, [.ref ob, .int v7])), (ob, .inl (cB, ol, .inl v8)), (wa, .inr (6, [.ref qa, .ref oa]))]) rfl ?_
      refine G_iload F zd_P_copyFrom_98 (j := 0) rfl ?_
      obtain ⟨q1, q2, q3, q4, q5, q6, q7⟩ := inj7 h
      subst q1
      subst q2
      subst q3
      subst q4
      subst q5
      subst q6
      subst q7
      exact E 100 _ zd_P_copyFrom_100
    · have h := iN h h0
      refine G_iconst (v := (0 : Int32)) F zd_P_copyFrom_43 (by decide) ?_
      obtain ⟨q1, q2, q3, q4, q5, q6, q7⟩ := inj7 h
      subst q1
      subst q2
      subst q3
      subst q4
      subst q5
      subst q6
      subst q7
      exact E 44 _ zd_P_copyFrom_44

set_option maxHeartbeats 4000000 in
set_option maxRecDepth 100000 in
theorem zk_SW_end (l : Launch) (D : va_G) (cB cI cJ : ClassId) (qa : Nat) (qb : Nat) (oa : Nat) (ob : Nat) (wa : Nat) (qn : Int32) (ql : Nat) (qf : Nat → Int32) (on : Int32) (ol : Nat) (of : Nat → Int32) (i1 : Int32) (on' : Int32) (of' : Nat → Int32) (h : zf_SW_end qn ql qf on ol of i1 = some (on', of')) : CoV l zy_SW_end zw_SW_end { frames := 3, cells := 0, slots := 0, locals := 68 } D cB cI cJ [.ref wa, .int i1] [(qa, .inr (4, [.ref qb, .int qn])), (qb, .inl (cB, ql, .inl qf)), (oa, .inr (4, [.ref ob, .int on])), (ob, .inl (cB, ol, .inl of)), (wa, .inr (6, [.ref qa, .ref oa]))] [(qa, .inr (4, [.ref qb, .int qn])), (qb, .inl (cB, ql, .inl qf)), (oa, .inr (4, [.ref ob, .int on'])), (ob, .inl (cB, ol, .inl of')), (wa, .inr (6, [.ref qa, .ref oa]))] := by
  unfold zf_SW_end at h
  refine CoV.ofG (cc := zc_SW_end) (maxL := 2) (own := RX7) (by decide) rfl rfl rfl trivial (Nat.le_of_ble_eq_true rfl) (L0 := [(0, .ref wa), (1, .int i1)]) rfl (fun k F E => ?_)
  refine G_aload_n F zd_SW_end_0 rfl (j := 0) rfl ?_
  refine G_iload_n F zd_SW_end_1 rfl (j := 1) rfl ?_
  refine G_aload_n F zd_SW_end_2 rfl (j := 0) rfl ?_
  refine G_get F fa_SW_36_SW (q := 4) zd_SW_end_3 rfl rfl ?_
  refine G_get F fa_SW_39_R (q := 0) zd_SW_end_6 rfl rfl ?_
  refine G_iconst (v := (0 : Int32)) F zd_SW_end_9 (by decide) ?_
  obtain ⟨v1, v2, hc10, h⟩ := bc2_s h
  refine G_callvV F (zk_SW_writeLiterals l D cB cI cJ qa qb oa ob wa qn ql qf on ol of i1 qn (0 : Int32) v1 v2 hc10) (rest := []) [0, 1, 2, 3, 4] rfl rfl rfl (ws' := [(qa, .inr (4, [.ref qb, .int qn])), (qb, .inl (cB, ql, .inl qf)), (oa, .inr (4, [.ref ob, .int v1])), (ob, .inl (cB, ol, .inl v2)), (wa, .inr (6, [.ref qa, .ref oa]))]) rfl (q0 := 4) rfl cv_SW_25_SW rfl rfl ⟨Nat.le_of_ble_eq_true rfl, Nat.le_of_ble_eq_true rfl⟩ hf0 rfl (Nat.le_of_ble_eq_true rfl) zd_SW_end_10 rfl ?_
  obtain ⟨q1, q2⟩ := inj2 h
  subst q1
  subst q2
  exact E 13 _ zd_SW_end_13

set_option maxHeartbeats 4000000 in
set_option maxRecDepth 100000 in
theorem zl_P_run_S_25 {k : GC} {l : Launch} {D : va_G} {cB cI cJ : ClassId} (F : GF k l { frames := 5, cells := 0, slots := 0, locals := 118 } zc_P_run 3 RX3 D cB cI cJ) (pn : Int32) (pl : Nat) (pf : Nat → Int32) (qn : Int32) (ql : Nat) (qf : Nat → Int32) (ol : Nat) (pa : Nat) (pb : Nat) (qa : Nat) (qb : Nat) (ka : Nat) (ha : Nat) (ta : Nat) (oa : Nat) (ob : Nat) (wa : Nat) : ∀ (n : Nat) (v3 : Int32) (v4 : Int32) (v5 : Int32) (v6 : Int32) (v7 : Nat → Int32) (v8 : Int32) (v9 : Nat → Int32) (w3 : Int32) (w4 : Int32) (w5 : Int32) (w6 : Int32) (w7 : Nat → Int32) (w8 : Int32) (w9 : Nat → Int32), zf_P_run_S_L25 pn pl pf qn ql qf ol n v3 v4 v5 v6 v7 v8 v9 = some (w3, w4, w5, w6, w7, w8, w9) → G D 3 k 0 0 55 [(0, .ref ka), (1, .ref wa), (2, .int w3)] [] [(pa, .inr (4, [.ref pb, .int pn])), (pb, .inl (cB, pl, .inl pf)), (qa, .inr (4, [.ref qb, .int qn])), (qb, .inl (cB, ql, .inl qf)), (ha, .inr (2, [.ref pa, .ref qa])), (ka, .inr (3, [.ref pa, .ref qa, .ref ha, .ref ta, .int w4, .int w5, .int w6])), (ta, .inl (cI, 32, .inl w7)), (oa, .inr (4, [.ref ob, .int w8])), (ob, .inl (cB, ol, .inl w9)), (wa, .inr (6, [.ref qa, .ref oa]))] → G D 3 k 0 0 25 [(0, .ref ka), (1, .ref wa), (2, .int v3)] [] [(pa, .inr (4, [.ref pb, .int pn])), (pb, .inl (cB, pl, .inl pf)), (qa, .inr (4, [.ref qb, .int qn])), (qb, .inl (cB, ql, .inl qf)), (ha, .inr (2, [.ref pa, .ref qa])), (ka, .inr (3, [.ref pa, .ref qa, .ref ha, .ref ta, .int v4, .int v5, .int v6])), (ta, .inl (cI, 32, .inl v7)), (oa, .inr (4, [.ref ob, .int v8])), (ob, .inl (cB, ol, .inl v9)), (wa, .inr (6, [.ref qa, .ref oa]))] := by
  intro n
  induction n with
  | zero =>
    intro v3 v4 v5 v6 v7 v8 v9 w3 w4 w5 w6 w7 w8 w9 h
    rw [zf_P_run_S_L25_0] at h
    cases h
  | succ n ih =>
    intro v3 v4 v5 v6 v7 v8 v9 w3 w4 w5 w6 w7 w8 w9 h hx
    have h := (zf_P_run_S_L25_s pn pl pf qn ql qf ol n v3 v4 v5 v6 v7 v8 v9).symm.trans h
    refine G_iload_n F zd_P_run_25 rfl (j := 2) rfl ?_
    refine G_bipush (v := (12 : Int32)) F zd_P_run_26 (by decide) ?_
    refine G_iadd F zd_P_run_28 ?_
    refine G_aload_n F zd_P_run_29 rfl (j := 0) rfl ?_
    refine G_get F fa_P_13_P (q := 5) zd_P_run_30 rfl rfl ?_
    refine G_get F fa_P_47_R (q := 2) zd_P_run_33 rfl rfl ?_
    refine G_icmp_gt F zd_P_run_36 (tgt := 55) rfl (fun h0 => ?_) (fun h0 => ?_)
    · have h := iP h h0
      obtain ⟨q1, q2, q3, q4, q5, q6, q7⟩ := inj7 h
      subst q1
      subst q2
      subst q3
      subst q4
      subst q5
      subst q6
      subst q7
      exact G_lv [0, 1, 2] rfl hx
    · have h := iN h h0
      refine G_iload_n F zd_P_run_39 rfl (j := 2) rfl ?_
      refine G_iconst (v := (1 : Int32)) F zd_P_run_40 (by decide) ?_
      refine G_aload_n F zd_P_run_41 rfl (j := 0) rfl ?_
      refine G_iload_n F zd_P_run_42 rfl (j := 2) rfl ?_
      refine G_aload_n F zd_P_run_43 rfl (j := 1) rfl ?_
      obtain ⟨v10, v11, v12, v13, v14, v15, v16, hc44, h⟩ := bc7_s h
      refine G_calliV F (zk_P_copyFrom_S l D cB cI cJ pa pb qa qb ka ha ta oa ob wa pn pl pf qn ql qf v7 v4 v5 v6 v3 v8 ol v9 v10 v11 v12 v13 v14 v15 v16 hc44) (rest := [.int (1 : Int32), .int v3]) [0, 1, 2, 3, 4, 5, 6, 7, 8, 9] rfl rfl rfl (ws' := [(pa, .inr (4, [.ref pb, .int pn])), (pb, .inl (cB, pl, .inl pf)), (qa, .inr (4, [.ref qb, .int qn])), (qb, .inl (cB, ql, .inl qf)), (ha, .inr (2, [.ref pa, .ref qa])), (ka, .inr (3, [.ref pa, .ref qa, .ref ha, .ref ta, .int v11, .int v12, .int v13])), (ta, .inl (cI, 32, .inl v14)), (oa, .inr (4, [.ref ob, .int v15])), (ob, .inl (cB, ol, .inl v16)), (wa, .inr (6, [.ref qa, .ref oa]))]) rfl (q0 := 5) rfl cv_P_52_P rfl rfl ⟨Nat.le_of_ble_eq_true rfl, Nat.le_of_ble_eq_true rfl⟩ hf0 rfl (Nat.le_of_ble_eq_true rfl) zd_P_run_44 rfl ?_
      obtain ⟨v17, ev17, h⟩ := bnd_s h
      refine G_mmax F cm_P_56 zd_P_run_47 ev17 (by decide) hf0 (Nat.le_of_ble_eq_true rfl) ?_
      refine G_iadd F zd_P_run_50 ?_
      obtain ⟨v18, ev18, h⟩ := bnd_s h
      refine G_topi ev18 ?_
      refine G_istore_n F zd_P_run_51 rfl (by decide) (L' := [(2, .int v18), (0, .ref ka), (1, .ref wa)]) rfl ?_
      refine G_goto F zd_P_run_52 (tgt := 25) rfl ?_
      exact G_lv [1, 2, 0] rfl (ih _ _ _ _ _ _ _ _ _ _ _ _ _ _ h hx)
set_option maxHeartbeats 4000000 in
set_option maxRecDepth 100000 in
theorem zk_P_run_S (l : Launch) (D : va_G) (cB cI cJ : ClassId) (pa : Nat) (pb : Nat) (qa : Nat) (qb : Nat) (ka : Nat) (ha : Nat) (ta : Nat) (oa : Nat) (ob : Nat) (wa : Nat) (pn : Int32) (pl : Nat) (pf : Nat → Int32) (qn : Int32) (ql : Nat) (qf : Nat → Int32) (tf : Nat → Int32) (an : Int32) (mt : Int32) (co : Int32) (on : Int32) (ol : Nat) (of : Nat → Int32) (an' : Int32) (mt' : Int32) (co' : Int32) (tf' : Nat → Int32) (on' : Int32) (of' : Nat → Int32) (h : zf_P_run_S pn pl pf qn ql qf tf ol of = some (an', mt', co', tf', on', of')) : CoV l zy_P_run zw_P_run { frames := 5, cells := 0, slots := 0, locals := 118 } D cB cI cJ [.ref ka, .ref wa] [(pa, .inr (4, [.ref pb, .int pn])), (pb, .inl (cB, pl, .inl pf)), (qa, .inr (4, [.ref qb, .int qn])), (qb, .inl (cB, ql, .inl qf)), (ha, .inr (2, [.ref pa, .ref qa])), (ka, .inr (3, [.ref pa, .ref qa, .ref ha, .ref ta, .int an, .int mt, .int co])), (ta, .inl (cI, 32, .inl tf)), (oa, .inr (4, [.ref ob, .int on])), (ob, .inl (cB, ol, .inl of)), (wa, .inr (6, [.ref qa, .ref oa]))] [(pa, .inr (4, [.ref pb, .int pn])), (pb, .inl (cB, pl, .inl pf)), (qa, .inr (4, [.ref qb, .int qn])), (qb, .inl (cB, ql, .inl qf)), (ha, .inr (2, [.ref pa, .ref qa])), (ka, .inr (3, [.ref pa, .ref qa, .ref ha, .ref ta, .int an', .int mt', .int co'])), (ta, .inl (cI, 32, .inl tf')), (oa, .inr (4, [.ref ob, .int on'])), (ob, .inl (cB, ol, .inl of')), (wa, .inr (6, [.ref qa, .ref oa]))] := by
  unfold zf_P_run_S at h
  refine CoV.ofG (cc := zc_P_run) (maxL := 3) (own := RX3) (by decide) rfl rfl rfl trivial (Nat.le_of_ble_eq_true rfl) (L0 := [(0, .ref ka), (1, .ref wa)]) rfl (fun k F E => ?_)
  refine G_aload_n F zd_P_run_0 rfl (j := 0) rfl ?_
  refine G_iconst (v := (0 : Int32)) F zd_P_run_1 (by decide) ?_
  refine G_put F fp_P_29_P (q := 5) zd_P_run_2 rfl (Nat.le_of_ble_eq_true rfl) (ws' := [(pa, .inr (4, [.ref pb, .int pn])), (pb, .inl (cB, pl, .inl pf)), (qa, .inr (4, [.ref qb, .int qn])), (qb, .inl (cB, ql, .inl qf)), (ha, .inr (2, [.ref pa, .ref qa])), (ka, .inr (3, [.ref pa, .ref qa, .ref ha, .ref ta, .int (0 : Int32), .int mt, .int co])), (ta, .inl (cI, 32, .inl tf)), (oa, .inr (4, [.ref ob, .int on])), (ob, .inl (cB, ol, .inl of)), (wa, .inr (6, [.ref qa, .ref oa]))]) rfl ?_
  refine G_aload_n F zd_P_run_5 rfl (j := 0) rfl ?_
  refine G_iconst (v := (0 : Int32)) F zd_P_run_6 (by decide) ?_
  refine G_put F fp_P_33_P (q := 5) zd_P_run_7 rfl (Nat.le_of_ble_eq_true rfl) (ws' := [(pa, .inr (4, [.ref pb, .int pn])), (pb, .inl (cB, pl, .inl pf)), (qa, .inr (4, [.ref qb, .int qn])), (qb, .inl (cB, ql, .inl qf)), (ha, .inr (2, [.ref pa, .ref qa])), (ka, .inr (3, [.ref pa, .ref qa, .ref ha, .ref ta, .int (0 : Int32), .int (0 : Int32), .int co])), (ta, .inl (cI, 32, .inl tf)), (oa, .inr (4, [.ref ob, .int on])), (ob, .inl (cB, ol, .inl of)), (wa, .inr (6, [.ref qa, .ref oa]))]) rfl ?_
  refine G_aload_n F zd_P_run_10 rfl (j := 0) rfl ?_
  refine G_iconst (v := (0 : Int32)) F zd_P_run_11 (by decide) ?_
  refine G_put F fp_P_36_P (q := 5) zd_P_run_12 rfl (Nat.le_of_ble_eq_true rfl) (ws' := [(pa, .inr (4, [.ref pb, .int pn])), (pb, .inl (cB, pl, .inl pf)), (qa, .inr (4, [.ref qb, .int qn])), (qb, .inl (cB, ql, .inl qf)), (ha, .inr (2, [.ref pa, .ref qa])), (ka, .inr (3, [.ref pa, .ref qa, .ref ha, .ref ta, .int (0 : Int32), .int (0 : Int32), .int (0 : Int32)])), (ta, .inl (cI, 32, .inl tf)), (oa, .inr (4, [.ref ob, .int on])), (ob, .inl (cB, ol, .inl of)), (wa, .inr (6, [.ref qa, .ref oa]))]) rfl ?_
  refine G_aload_n F zd_P_run_15 rfl (j := 0) rfl ?_
  obtain ⟨v1, hc16, h⟩ := bc1_s h
  refine G_callvV F (zk_P_learnPast l D cB cI cJ pa pb qa qb ka ha ta pn pl pf qn ql qf tf (0 : Int32) (0 : Int32) (0 : Int32) v1 hc16) (rest := []) [0, 1, 2, 3, 4, 5, 6] rfl rfl rfl (ws' := [(pa, .inr (4, [.ref pb, .int pn])), (pb, .inl (cB, pl, .inl pf)), (qa, .inr (4, [.ref qb, .int qn])), (qb, .inl (cB, ql, .inl qf)), (ha, .inr (2, [.ref pa, .ref qa])), (ka, .inr (3, [.ref pa, .ref qa, .ref ha, .ref ta, .int (0 : Int32), .int (0 : Int32), .int (0 : Int32)])), (ta, .inl (cI, 32, .inl v1)), (oa, .inr (4, [.ref ob, .int on])), (ob, .inl (cB, ol, .inl of)), (wa, .inr (6, [.ref qa, .ref oa]))]) rfl (q0 := 5) rfl cv_P_39_P rfl rfl ⟨Nat.le_of_ble_eq_true rfl, Nat.le_of_ble_eq_true rfl⟩ hf0 rfl (Nat.le_of_ble_eq_true rfl) zd_P_run_16 rfl ?_
  refine G_aload_n F zd_P_run_19 rfl (j := 1) rfl ?_
  obtain ⟨v2, hc20, h⟩ := bc1_s h
  refine G_callvA F (zk_SW_begin l D cB cI cJ qa qb oa ob wa qn ql qf on ol of v2 hc20) (rest := []) [2, 3, 7, 8, 9] rfl rfl rfl (ws' := [(pa, .inr (4, [.ref pb, .int pn])), (pb, .inl (cB, pl, .inl pf)), (qa, .inr (4, [.ref qb, .int qn])), (qb, .inl (cB, ql, .inl qf)), (ha, .inr (2, [.ref pa, .ref qa])), (ka, .inr (3, [.ref pa, .ref qa, .ref ha, .ref ta, .int (0 : Int32), .int (0 : Int32), .int (0 : Int32)])), (ta, .inl (cI, 32, .inl v1)), (oa, .inr (4, [.ref ob, .int v2])), (ob, .inl (cB, ol, .inl of)), (wa, .inr (6, [.ref qa, .ref oa]))]) rfl (q0 := 9) rfl (x := ⟨"PressSuite$Writer", "begin", "()V"⟩) cv_P_42_SW rfl rfl ⟨Nat.le_of_ble_eq_true rfl, Nat.le_of_ble_eq_true rfl⟩ hf0 rfl (Nat.le_of_ble_eq_true rfl) zd_P_run_20 rfl ?_
  refine G_iconst (v := (0 : Int32)) F zd_P_run_23 (by decide) ?_
  refine G_istore_n F zd_P_run_24 rfl (by decide) (L' := [(2, .int (0 : Int32)), (0, .ref ka), (1, .ref wa)]) rfl ?_
  obtain ⟨x19, x20, x21, x22, x23, x24, x25, hl25, h⟩ := bc7_s h
  refine G_lv [1, 2, 0] rfl (zl_P_run_S_25 F pn pl pf qn ql qf ol pa pb qa qb ka ha ta oa ob wa 1000 (0 : Int32) (0 : Int32) (0 : Int32) (0 : Int32) v1 v2 of x19 x20 x21 x22 x23 x24 x25 hl25 ?_)
  refine G_aload_n F zd_P_run_55 rfl (j := 1) rfl ?_
  refine G_aload_n F zd_P_run_56 rfl (j := 0) rfl ?_
  refine G_get F fa_P_29_P (q := 5) zd_P_run_57 rfl rfl ?_
  obtain ⟨v26, v27, hc60, h⟩ := bc2_s h
  refine G_callvA F (zk_SW_end l D cB cI cJ qa qb oa ob wa qn ql qf x24 ol x25 x20 v26 v27 hc60) (rest := []) [2, 3, 7, 8, 9] rfl rfl rfl (ws' := [(pa, .inr (4, [.ref pb, .int pn])), (pb, .inl (cB, pl, .inl pf)), (qa, .inr (4, [.ref qb, .int qn])), (qb, .inl (cB, ql, .inl qf)), (ha, .inr (2, [.ref pa, .ref qa])), (ka, .inr (3, [.ref pa, .ref qa, .ref ha, .ref ta, .int x20, .int x21, .int x22])), (ta, .inl (cI, 32, .inl x23)), (oa, .inr (4, [.ref ob, .int v26])), (ob, .inl (cB, ol, .inl v27)), (wa, .inr (6, [.ref qa, .ref oa]))]) rfl (q0 := 9) rfl (x := ⟨"PressSuite$Writer", "end", "(I)V"⟩) cv_P_62_SW rfl rfl ⟨Nat.le_of_ble_eq_true rfl, Nat.le_of_ble_eq_true rfl⟩ hf0 rfl (Nat.le_of_ble_eq_true rfl) zd_P_run_60 rfl ?_
  obtain ⟨q1, q2, q3, q4, q5, q6⟩ := inj6 h
  subst q1
  subst q2
  subst q3
  subst q4
  subst q5
  subst q6
  exact E 63 _ zd_P_run_63

set_option maxHeartbeats 4000000 in
set_option maxRecDepth 100000 in
theorem zl_EW_begin_15 {k : GC} {l : Launch} {D : va_G} {cB cI cJ : ClassId} (F : GF k l { frames := 1, cells := 0, slots := 0, locals := 21 } zc_EW_begin 2 RX1 D cB cI cJ) (qn : Int32) (ql : Nat) (qf : Nat → Int32) (ol : Nat) (qa : Nat) (qb : Nat) (oa : Nat) (ob : Nat) (wa : Nat) : ∀ (n : Nat) (v2 : Int32) (v3 : Int32) (v4 : Nat → Int32) (w2 : Int32) (w3 : Int32) (w4 : Nat → Int32), zf_EW_begin_L15 ol n v2 v3 v4 = some (w2, w3, w4) → G D 2 k 0 0 44 [(0, .ref wa), (1, .int w2)] [] [(qa, .inr (4, [.ref qb, .int qn])), (qb, .inl (cB, ql, .inl qf)), (oa, .inr (4, [.ref ob, .int w3])), (ob, .inl (cB, ol, .inl w4)), (wa, .inr (1, [.ref qa, .ref oa]))] → G D 2 k 0 0 15 [(0, .ref wa), (1, .int v2)] [] [(qa, .inr (4, [.ref qb, .int qn])), (qb, .inl (cB, ql, .inl qf)), (oa, .inr (4, [.ref ob, .int v3])), (ob, .inl (cB, ol, .inl v4)), (wa, .inr (1, [.ref qa, .ref oa]))] := by
  intro n
  induction n with
  | zero =>
    intro v2 v3 v4 w2 w3 w4 h
    rw [zf_EW_begin_L15_0] at h
    cases h
  | succ n ih =>
    intro v2 v3 v4 w2 w3 w4 h hx
    have h := (zf_EW_begin_L15_s ol n v2 v3 v4).symm.trans h
    refine G_iload_n F zd_EW_begin_15 rfl (j := 1) rfl ?_
    refine G_bipush (v := (127 : Int32)) F zd_EW_begin_16 (by decide) ?_
    refine G_icmp_le F zd_EW_begin_18 (tgt := 44) rfl (fun h0 => ?_) (fun h0 => ?_)
    · have h := iP h h0
      obtain ⟨q1, q2, q3⟩ := inj3 h
      subst q1
      subst q2
      subst q3
      exact G_lv [0, 1] rfl hx
    · have h := iN h h0
      refine G_aload_n F zd_EW_begin_21 rfl (j := 0) rfl ?_
      refine G_get F fa_EW_7_EW (q := 4) zd_EW_begin_22 rfl rfl ?_
      refine G_iload_n F zd_EW_begin_25 rfl (j := 1) rfl ?_
      refine G_bipush (v := (127 : Int32)) F zd_EW_begin_26 (by decide) ?_
      refine G_iand F zd_EW_begin_28 ?_
      refine G_sipush (v := (128 : Int32)) F zd_EW_begin_29 (by decide) ?_
      refine G_ior F zd_EW_begin_32 ?_
      obtain ⟨v5, v6, hc33, h⟩ := bc2_s h
      refine G_callvV F (zk_R_add l D cB cI cJ oa ob v3 ol v4 ((v2 &&& (127 : Int32)) ||| (128 : Int32)) v5 v6 hc33) (rest := []) [2, 3] rfl rfl rfl (ws' := [(qa, .inr (4, [.ref qb, .int qn])), (qb, .inl (cB, ql, .inl qf)), (oa, .inr (4, [.ref ob, .int v5])), (ob, .inl (cB, ol, .inl v6)), (wa, .inr (1, [.ref qa, .ref oa]))]) rfl (q0 := 2) rfl cv_EW_26_R rfl rfl ⟨Nat.le_of_ble_eq_true rfl, Nat.le_of_ble_eq_true rfl⟩ hf0 rfl (Nat.le_of_ble_eq_true rfl) zd_EW_begin_33 rfl ?_
      refine G_iload_n F zd_EW_begin_36 rfl (j := 1) rfl ?_
      refine G_bipush (v := (7 : Int32)) F zd_EW_begin_37 (by decide) ?_
      refine G_iushr F zd_EW_begin_39 ?_
      obtain ⟨v7, ev7, h⟩ := bnd_s h
      refine G_topi ev7 ?_
      refine G_istore_n F zd_EW_begin_40 rfl (by decide) (L' := [(1, .int v7), (0, .ref wa)]) rfl ?_
      refine G_goto F zd_EW_begin_41 (tgt := 15) rfl ?_
      exact G_lv [1, 0] rfl (ih _ _ _ _ _ _ h hx)
set_option maxHeartbeats 4000000 in
set_option maxRecDepth 100000 in
theorem zk_EW_begin (l : Launch) (D : va_G) (cB cI cJ : ClassId) (qa : Nat) (qb : Nat) (oa : Nat) (ob : Nat) (wa : Nat) (qn : Int32) (ql : Nat) (qf : Nat → Int32) (on : Int32) (ol : Nat) (of : Nat → Int32) (on' : Int32) (of' : Nat → Int32) (h : zf_EW_begin qn ol of = some (on', of')) : CoV l zy_EW_begin zw_EW_begin { frames := 1, cells := 0, slots := 0, locals := 21 } D cB cI cJ [.ref wa] [(qa, .inr (4, [.ref qb, .int qn])), (qb, .inl (cB, ql, .inl qf)), (oa, .inr (4, [.ref ob, .int on])), (ob, .inl (cB, ol, .inl of)), (wa, .inr (1, [.ref qa, .ref oa]))] [(qa, .inr (4, [.ref qb, .int qn])), (qb, .inl (cB, ql, .inl qf)), (oa, .inr (4, [.ref ob, .int on'])), (ob, .inl (cB, ol, .inl of')), (wa, .inr (1, [.ref qa, .ref oa]))] := by
  unfold zf_EW_begin at h
  refine CoV.ofG (cc := zc_EW_begin) (maxL := 2) (own := RX1) (by decide) rfl rfl rfl trivial (Nat.le_of_ble_eq_true rfl) (L0 := [(0, .ref wa)]) rfl (fun k F E => ?_)
  refine G_aload_n F zd_EW_begin_0 rfl (j := 0) rfl ?_
  refine G_get F fa_EW_7_EW (q := 4) zd_EW_begin_1 rfl rfl ?_
  obtain ⟨v1, hc4, h⟩ := bc1_s h
  refine G_callvV F (zk_R_clear l D cB cI cJ oa ob on ol of v1 hc4) (rest := []) [2, 3] rfl rfl rfl (ws' := [(qa, .inr (4, [.ref qb, .int qn])), (qb, .inl (cB, ql, .inl qf)), (oa, .inr (4, [.ref ob, .int v1])), (ob, .inl (cB, ol, .inl of)), (wa, .inr (1, [.ref qa, .ref oa]))]) rfl (q0 := 2) rfl cv_EW_13_R rfl rfl ⟨Nat.le_of_ble_eq_true rfl, Nat.le_of_ble_eq_true rfl⟩ hf0 rfl (Nat.le_of_ble_eq_true rfl) zd_EW_begin_4 rfl ?_
  refine G_aload_n F zd_EW_begin_7 rfl (j := 0) rfl ?_
  refine G_get F fa_EW_19_EW (q := 4) zd_EW_begin_8 rfl rfl ?_
  refine G_get F fa_EW_22_R (q := 0) zd_EW_begin_11 rfl rfl ?_
  refine G_istore_n F zd_EW_begin_14 rfl (by decide) (L' := [(1, .int qn), (0, .ref wa)]) rfl ?_
  obtain ⟨x8, x9, x10, hl15, h⟩ := bc3_s h
  refine G_lv [1, 0] rfl (zl_EW_begin_15 F qn ql qf ol qa qb oa ob wa 1000 qn v1 of x8 x9 x10 hl15 ?_)
  refine G_aload_n F zd_EW_begin_44 rfl (j := 0) rfl ?_
  refine G_get F fa_EW_7_EW (q := 4) zd_EW_begin_45 rfl rfl ?_
  refine G_iload_n F zd_EW_begin_48 rfl (j := 1) rfl ?_
  obtain ⟨v11, v12, hc49, h⟩ := bc2_s h
  refine G_callvV F (zk_R_add l D cB cI cJ oa ob x9 ol x10 x8 v11 v12 hc49) (rest := []) [2, 3] rfl rfl rfl (ws' := [(qa, .inr (4, [.ref qb, .int qn])), (qb, .inl (cB, ql, .inl qf)), (oa, .inr (4, [.ref ob, .int v11])), (ob, .inl (cB, ol, .inl v12)), (wa, .inr (1, [.ref qa, .ref oa]))]) rfl (q0 := 2) rfl cv_EW_26_R rfl rfl ⟨Nat.le_of_ble_eq_true rfl, Nat.le_of_ble_eq_true rfl⟩ hf0 rfl (Nat.le_of_ble_eq_true rfl) zd_EW_begin_49 rfl ?_
  obtain ⟨q1, q2⟩ := inj2 h
  subst q1
  subst q2
  exact E 52 _ zd_EW_begin_52

set_option maxHeartbeats 4000000 in
set_option maxRecDepth 100000 in
theorem zl_W_writePlain_E_2 {k : GC} {l : Launch} {D : va_G} {cB cI cJ : ClassId} (F : GF k l { frames := 1, cells := 0, slots := 0, locals := 21 } zc_W_writePlain 4 RX8 D cB cI cJ) (qn : Int32) (ql : Nat) (qf : Nat → Int32) (ol : Nat) (i1 : Int32) (i2 : Int32) (qa : Nat) (qb : Nat) (oa : Nat) (ob : Nat) (wa : Nat) : ∀ (n : Nat) (v1 : Int32) (v2 : Int32) (v3 : Nat → Int32) (w1 : Int32) (w2 : Int32) (w3 : Nat → Int32), zf_W_writePlain_L2 qn ql qf ol i2 n v1 v2 v3 = some (w1, w2, w3) → G D 4 k 0 0 28 [(0, .ref wa), (1, .int i1), (2, .int i2), (3, .int w1)] [] [(qa, .inr (4, [.ref qb, .int qn])), (qb, .inl (cB, ql, .inl qf)), (oa, .inr (4, [.ref ob, .int w2])), (ob, .inl (cB, ol, .inl w3)), (wa, .inr (1, [.ref qa, .ref oa]))] → G D 4 k 0 0 2 [(0, .ref wa), (1, .int i1), (2, .int i2), (3, .int v1)] [] [(qa, .inr (4, [.ref qb, .int qn])), (qb, .inl (cB, ql, .inl qf)), (oa, .inr (4, [.ref ob, .int v2])), (ob, .inl (cB, ol, .inl v3)), (wa, .inr (1, [.ref qa, .ref oa]))] := by
  intro n
  induction n with
  | zero =>
    intro v1 v2 v3 w1 w2 w3 h
    rw [zf_W_writePlain_L2_0] at h
    cases h
  | succ n ih =>
    intro v1 v2 v3 w1 w2 w3 h hx
    have h := (zf_W_writePlain_L2_s qn ql qf ol i2 n v1 v2 v3).symm.trans h
    refine G_iload_n F zd_W_writePlain_2 rfl (j := 3) rfl ?_
    refine G_iload_n F zd_W_writePlain_3 rfl (j := 2) rfl ?_
    refine G_icmp_ge F zd_W_writePlain_4 (tgt := 28) rfl (fun h0 => ?_) (fun h0 => ?_)
    · have h := iP h h0
      obtain ⟨q1, q2, q3⟩ := inj3 h
      subst q1
      subst q2
      subst q3
      exact G_lv [0, 1, 2, 3] rfl hx
    · have h := iN h h0
      refine G_aload_n F zd_W_writePlain_7 rfl (j := 0) rfl ?_
      refine G_get F fa_W_13_EW (q := 4) zd_W_writePlain_8 rfl rfl ?_
      refine G_aload_n F zd_W_writePlain_11 rfl (j := 0) rfl ?_
      refine G_get F fa_W_7_EW (q := 4) zd_W_writePlain_12 rfl rfl ?_
      refine G_iload_n F zd_W_writePlain_15 rfl (j := 3) rfl ?_
      obtain ⟨v4, hc16, h⟩ := bc1_s h
      refine G_calliV0 F (zk_R_byteAt l D cB cI cJ qa qb qn ql qf v1 v4 hc16) (rest := [.ref oa]) [0, 1] rfl rfl (q0 := 0) rfl cv_W_16_R rfl rfl ⟨Nat.le_of_ble_eq_true rfl, Nat.le_of_ble_eq_true rfl⟩ hf0 rfl (Nat.le_of_ble_eq_true rfl) zd_W_writePlain_16 rfl ?_
      obtain ⟨v5, v6, hc19, h⟩ := bc2_s h
      refine G_callvV F (zk_R_add l D cB cI cJ oa ob v2 ol v3 v4 v5 v6 hc19) (rest := []) [2, 3] rfl rfl rfl (ws' := [(qa, .inr (4, [.ref qb, .int qn])), (qb, .inl (cB, ql, .inl qf)), (oa, .inr (4, [.ref ob, .int v5])), (ob, .inl (cB, ol, .inl v6)), (wa, .inr (1, [.ref qa, .ref oa]))]) rfl (q0 := 2) rfl cv_W_22_R rfl rfl ⟨Nat.le_of_ble_eq_true rfl, Nat.le_of_ble_eq_true rfl⟩ hf0 rfl (Nat.le_of_ble_eq_true rfl) zd_W_writePlain_19 rfl ?_
      obtain ⟨v7, ev7, h⟩ := bnd_s h
      refine G_iinc F zd_W_writePlain_22 (j := 3) rfl (w := (1 : Int32)) (by decide) ev7 (by decide) (L' := [(3, .int v7), (0, .ref wa), (1, .int i1), (2, .int i2)]) rfl ?_
      refine G_goto F zd_W_writePlain_25 (tgt := 2) rfl ?_
      exact G_lv [1, 2, 3, 0] rfl (ih _ _ _ _ _ _ h hx)
set_option maxHeartbeats 4000000 in
set_option maxRecDepth 100000 in
theorem zk_W_writePlain_E (l : Launch) (D : va_G) (cB cI cJ : ClassId) (qa : Nat) (qb : Nat) (oa : Nat) (ob : Nat) (wa : Nat) (qn : Int32) (ql : Nat) (qf : Nat → Int32) (on : Int32) (ol : Nat) (of : Nat → Int32) (i1 : Int32) (i2 : Int32) (on' : Int32) (of' : Nat → Int32) (h : zf_W_writePlain qn ql qf on ol of i1 i2 = some (on', of')) : CoV l zy_W_writePlain zw_W_writePlain { frames := 1, cells := 0, slots := 0, locals := 21 } D cB cI cJ [.ref wa, .int i1, .int i2] [(qa, .inr (4, [.ref qb, .int qn])), (qb, .inl (cB, ql, .inl qf)), (oa, .inr (4, [.ref ob, .int on])), (ob, .inl (cB, ol, .inl of)), (wa, .inr (1, [.ref qa, .ref oa]))] [(qa, .inr (4, [.ref qb, .int qn])), (qb, .inl (cB, ql, .inl qf)), (oa, .inr (4, [.ref ob, .int on'])), (ob, .inl (cB, ol, .inl of')), (wa, .inr (1, [.ref qa, .ref oa]))] := by
  unfold zf_W_writePlain at h
  refine CoV.ofG (cc := zc_W_writePlain) (maxL := 4) (own := RX8) (by decide) rfl rfl rfl trivial (Nat.le_of_ble_eq_true rfl) (L0 := [(0, .ref wa), (1, .int i1), (2, .int i2)]) rfl (fun k F E => ?_)
  refine G_iload_n F zd_W_writePlain_0 rfl (j := 1) rfl ?_
  refine G_istore_n F zd_W_writePlain_1 rfl (by decide) (L' := [(3, .int i1), (0, .ref wa), (1, .int i1), (2, .int i2)]) rfl ?_
  obtain ⟨x8, x9, x10, hl2, h⟩ := bc3_s h
  refine G_lv [1, 2, 3, 0] rfl (zl_W_writePlain_E_2 F qn ql qf ol i1 i2 qa qb oa ob wa 1000 i1 on of x8 x9 x10 hl2 ?_)
  obtain ⟨q1, q2⟩ := inj2 h
  subst q1
  subst q2
  exact E 28 _ zd_W_writePlain_28

set_option maxHeartbeats 4000000 in
set_option maxRecDepth 100000 in
theorem zk_EW_writeLiterals (l : Launch) (D : va_G) (cB cI cJ : ClassId) (qa : Nat) (qb : Nat) (oa : Nat) (ob : Nat) (wa : Nat) (qn : Int32) (ql : Nat) (qf : Nat → Int32) (on : Int32) (ol : Nat) (of : Nat → Int32) (i1 : Int32) (i2 : Int32) (on' : Int32) (of' : Nat → Int32) (h : zf_EW_writeLiterals qn ql qf on ol of i1 i2 = some (on', of')) : CoV l zy_EW_writeLiterals zw_EW_writeLiterals { frames := 2, cells := 0, slots := 0, locals := 44 } D cB cI cJ [.ref wa, .int i1, .int i2] [(qa, .inr (4, [.ref qb, .int qn])), (qb, .inl (cB, ql, .inl qf)), (oa, .inr (4, [.ref ob, .int on])), (ob, .inl (cB, ol, .inl of)), (wa, .inr (1, [.ref qa, .ref oa]))] [(qa, .inr (4, [.ref qb, .int qn])), (qb, .inl (cB, ql, .inl qf)), (oa, .inr (4, [.ref ob, .int on'])), (ob, .inl (cB, ol, .inl of')), (wa, .inr (1, [.ref qa, .ref oa]))] := by
  unfold zf_EW_writeLiterals at h
  refine CoV.ofG (cc := zc_EW_writeLiterals) (maxL := 4) (own := RX1) (by decide) rfl rfl rfl trivial (Nat.le_of_ble_eq_true rfl) (L0 := [(0, .ref wa), (1, .int i1), (2, .int i2)]) rfl (fun k F E => ?_)
  refine G_iload_n F zd_EW_writeLiterals_0 rfl (j := 1) rfl ?_
  refine G_iload_n F zd_EW_writeLiterals_1 rfl (j := 2) rfl ?_
  refine G_icmp_lt F zd_EW_writeLiterals_2 (tgt := 6) rfl (fun h0 => ?_) (fun h0 => ?_)
  · have h := iP h h0
    refine G_iload_n F zd_EW_writeLiterals_6 rfl (j := 2) rfl ?_
    refine G_iload_n F zd_EW_writeLiterals_7 rfl (j := 1) rfl ?_
    refine G_isub F zd_EW_writeLiterals_8 ?_
    refine G_iconst (v := (1 : Int32)) F zd_EW_writeLiterals_9 (by decide) ?_
    refine G_isub F zd_EW_writeLiterals_10 ?_
    obtain ⟨v1, ev1, h⟩ := bnd_s h
    refine G_topi ev1 ?_
    refine G_istore_n F zd_EW_writeLiterals_11 rfl (by decide) (L' := [(3, .int v1), (0, .ref wa), (1, .int i1), (2, .int i2)]) rfl ?_
    refine G_iload_n F zd_EW_writeLiterals_12 rfl (j := 0) rfl ?_
    refine G_bipush (v := (60 : Int32)) F zd_EW_writeLiterals_13 (by decide) ?_
    obtain ⟨u2, u3, hj49, h⟩ := bc2_s h
    have X49 : G D 4 k 0 0 49 [(0, .ref wa), (1, .int i1), (2, .int i2), (3, .int v1)] [] [(qa, .inr (4, [.ref qb, .int qn])), (qb, .inl (cB, ql, .inl qf)), (oa, .inr (4, [.ref ob, .int u2])), (ob, .inl (cB, ol, .inl u3)), (wa, .inr (1, [.ref qa, .ref oa]))] := by
      refine G_aload_n F zd_EW_writeLiterals_49 rfl (j := 0) rfl ?_
      refine G_iload_n F zd_EW_writeLiterals_50 rfl (j := 1) rfl ?_
      refine G_iload_n F zd_EW_writeLiterals_51 rfl (j := 2) rfl ?_
      obtain ⟨v10, v11, hc52, h⟩ := bc2_s h
      refine G_callvU F (zk_W_writePlain_E l D cB cI cJ qa qb oa ob wa qn ql qf u2 ol u3 i1 i2 v10 v11 hc52) (rest := []) [0, 1, 2, 3, 4] rfl rfl rfl (ws' := [(qa, .inr (4, [.ref qb, .int qn])), (qb, .inl (cB, ql, .inl qf)), (oa, .inr (4, [.ref ob, .int v10])), (ob, .inl (cB, ol, .inl v11)), (wa, .inr (1, [.ref qa, .ref oa]))]) rfl (q0 := 4) rfl (x := ⟨"PressSuite$ElementWriter", "writePlain", "(II)V"⟩) cv_EW_40_EW rfl rfl ⟨Nat.le_of_ble_eq_true rfl, Nat.le_of_ble_eq_true rfl⟩ hf0 rfl (Nat.le_of_ble_eq_true rfl) zd_EW_writeLiterals_52 rfl ?_
      obtain ⟨q1, q2⟩ := inj2 h
      subst q1
      subst q2
      exact E 55 _ zd_EW_writeLiterals_55
    have h := hj49
    refine G_icmp_ge F zd_EW_writeLiterals_15 (tgt := 31) rfl (fun h0 => ?_) (fun h0 => ?_)
    · have h := iP h h0
      refine G_aload_n F zd_EW_writeLiterals_31 rfl (j := 1) rfl ?_
      refine G_get F fa_EW_7_EW (q := 4) zd_EW_writeLiterals_32 rfl rfl ?_
      refine G_sipush (v := (240 : Int32)) F zd_EW_writeLiterals_35 (by decide) ?_
      obtain ⟨v4, v5, hc38, h⟩ := bc2_s h
      refine G_callvV F (zk_R_add l D cB cI cJ oa ob on ol of (240 : Int32) v4 v5 hc38) (rest := []) [2, 3] rfl rfl rfl (ws' := [(qa, .inr (4, [.ref qb, .int qn])), (qb, .inl (cB, ql, .inl qf)), (oa, .inr (4, [.ref ob, .int v4])), (ob, .inl (cB, ol, .inl v5)), (wa, .inr (1, [.ref qa, .ref oa]))]) rfl (q0 := 2) rfl cv_EW_26_R rfl rfl ⟨Nat.le_of_ble_eq_true rfl, Nat.le_of_ble_eq_true rfl⟩ hf0 rfl (Nat.le_of_ble_eq_true rfl) zd_EW_writeLiterals_38 rfl ?_
      refine G_aload_n F zd_EW_writeLiterals_41 rfl (j := 1) rfl ?_
      refine G_get F fa_EW_7_EW (q := 4) zd_EW_writeLiterals_42 rfl rfl ?_
      refine G_iload_n F zd_EW_writeLiterals_45 rfl (j := 0) rfl ?_
      obtain ⟨v6, v7, hc46, h⟩ := bc2_s h
      refine G_callvV F (zk_R_add l D cB cI cJ oa ob v4 ol v5 v1 v6 v7 hc46) (rest := []) [2, 3] rfl rfl rfl (ws' := [(qa, .inr (4, [.ref qb, .int qn])), (qb, .inl (cB, ql, .inl qf)), (oa, .inr (4, [.ref ob, .int v6])), (ob, .inl (cB, ol, .inl v7)), (wa, .inr (1, [.ref qa, .ref oa]))]) rfl (q0 := 2) rfl cv_EW_26_R rfl rfl ⟨Nat.le_of_ble_eq_true rfl, Nat.le_of_ble_eq_true rfl⟩ hf0 rfl (Nat.le_of_ble_eq_true rfl) zd_EW_writeLiterals_46 rfl ?_
      obtain ⟨q1, q2⟩ := inj2 h
      subst q1
      subst q2
      exact G_lv [1, 2, 3, 0] rfl X49
    · have h := iN h h0
      refine G_aload_n F zd_EW_writeLiterals_18 rfl (j := 1) rfl ?_
      refine G_get F fa_EW_7_EW (q := 4) zd_EW_writeLiterals_19 rfl rfl ?_
      refine G_iload_n F zd_EW_writeLiterals_22 rfl (j := 0) rfl ?_
      refine G_iconst (v := (2 : Int32)) F zd_EW_writeLiterals_23 (by decide) ?_
      refine G_ishl F zd_EW_writeLiterals_24 ?_
      obtain ⟨v8, v9, hc25, h⟩ := bc2_s h
      refine G_callvV F (zk_R_add l D cB cI cJ oa ob on ol of (v1 <<< ((2 : Int32) &&& 31)) v8 v9 hc25) (rest := []) [2, 3] rfl rfl rfl (ws' := [(qa, .inr (4, [.ref qb, .int qn])), (qb, .inl (cB, ql, .inl qf)), (oa, .inr (4, [.ref ob, .int v8])), (ob, .inl (cB, ol, .inl v9)), (wa, .inr (1, [.ref qa, .ref oa]))]) rfl (q0 := 2) rfl cv_EW_26_R rfl rfl ⟨Nat.le_of_ble_eq_true rfl, Nat.le_of_ble_eq_true rfl⟩ hf0 rfl (Nat.le_of_ble_eq_true rfl) zd_EW_writeLiterals_25 rfl ?_
      refine G_goto F zd_EW_writeLiterals_28 (tgt := 49) rfl ?_
      obtain ⟨q1, q2⟩ := inj2 h
      subst q1
      subst q2
      exact G_lv [1, 2, 3, 0] rfl X49
  · have h := iN h h0
    obtain ⟨q1, q2⟩ := inj2 h
    subst q1
    subst q2
    exact E 5 _ zd_EW_writeLiterals_5

set_option maxHeartbeats 4000000 in
set_option maxRecDepth 100000 in
theorem zk_EW_writeLong (l : Launch) (D : va_G) (cB cI cJ : ClassId) (qa : Nat) (qb : Nat) (oa : Nat) (ob : Nat) (wa : Nat) (qn : Int32) (ql : Nat) (qf : Nat → Int32) (on : Int32) (ol : Nat) (of : Nat → Int32) (i1 : Int32) (i2 : Int32) (on' : Int32) (of' : Nat → Int32) (h : zf_EW_writeLong on ol of i1 i2 = some (on', of')) : CoV l zy_EW_writeLong zw_EW_writeLong { frames := 1, cells := 0, slots := 0, locals := 21 } D cB cI cJ [.ref wa, .int i1, .int i2] [(qa, .inr (4, [.ref qb, .int qn])), (qb, .inl (cB, ql, .inl qf)), (oa, .inr (4, [.ref ob, .int on])), (ob, .inl (cB, ol, .inl of)), (wa, .inr (1, [.ref qa, .ref oa]))] [(qa, .inr (4, [.ref qb, .int qn])), (qb, .inl (cB, ql, .inl qf)), (oa, .inr (4, [.ref ob, .int on'])), (ob, .inl (cB, ol, .inl of')), (wa, .inr (1, [.ref qa, .ref oa]))] := by
  unfold zf_EW_writeLong at h
  refine CoV.ofG (cc := zc_EW_writeLong) (maxL := 3) (own := RX1) (by decide) rfl rfl rfl trivial (Nat.le_of_ble_eq_true rfl) (L0 := [(0, .ref wa), (1, .int i1), (2, .int i2)]) rfl (fun k F E => ?_)
  refine G_aload_n F zd_EW_writeLong_0 rfl (j := 0) rfl ?_
  refine G_get F fa_EW_7_EW (q := 4) zd_EW_writeLong_1 rfl rfl ?_
  refine G_iload_n F zd_EW_writeLong_4 rfl (j := 2) rfl ?_
  refine G_iconst (v := (1 : Int32)) F zd_EW_writeLong_5 (by decide) ?_
  refine G_isub F zd_EW_writeLong_6 ?_
  refine G_iconst (v := (2 : Int32)) F zd_EW_writeLong_7 (by decide) ?_
  refine G_ishl F zd_EW_writeLong_8 ?_
  refine G_iconst (v := (2 : Int32)) F zd_EW_writeLong_9 (by decide) ?_
  refine G_ior F zd_EW_writeLong_10 ?_
  obtain ⟨v1, v2, hc11, h⟩ := bc2_s h
  refine G_callvV F (zk_R_add l D cB cI cJ oa ob on ol of (((i2 - (1 : Int32)) <<< ((2 : Int32) &&& 31)) ||| (2 : Int32)) v1 v2 hc11) (rest := []) [2, 3] rfl rfl rfl (ws' := [(qa, .inr (4, [.ref qb, .int qn])), (qb, .inl (cB, ql, .inl qf)), (oa, .inr (4, [.ref ob, .int v1])), (ob, .inl (cB, ol, .inl v2)), (wa, .inr (1, [.ref qa, .ref oa]))]) rfl (q0 := 2) rfl cv_EW_26_R rfl rfl ⟨Nat.le_of_ble_eq_true rfl, Nat.le_of_ble_eq_true rfl⟩ hf0 rfl (Nat.le_of_ble_eq_true rfl) zd_EW_writeLong_11 rfl ?_
  refine G_aload_n F zd_EW_writeLong_14 rfl (j := 0) rfl ?_
  refine G_get F fa_EW_7_EW (q := 4) zd_EW_writeLong_15 rfl rfl ?_
  refine G_iload_n F zd_EW_writeLong_18 rfl (j := 1) rfl ?_
  obtain ⟨v3, v4, hc19, h⟩ := bc2_s h
  refine G_callvV F (zk_R_add l D cB cI cJ oa ob v1 ol v2 i1 v3 v4 hc19) (rest := []) [2, 3] rfl rfl rfl (ws' := [(qa, .inr (4, [.ref qb, .int qn])), (qb, .inl (cB, ql, .inl qf)), (oa, .inr (4, [.ref ob, .int v3])), (ob, .inl (cB, ol, .inl v4)), (wa, .inr (1, [.ref qa, .ref oa]))]) rfl (q0 := 2) rfl cv_EW_26_R rfl rfl ⟨Nat.le_of_ble_eq_true rfl, Nat.le_of_ble_eq_true rfl⟩ hf0 rfl (Nat.le_of_ble_eq_true rfl) zd_EW_writeLong_19 rfl ?_
  refine G_aload_n F zd_EW_writeLong_22 rfl (j := 0) rfl ?_
  refine G_get F fa_EW_7_EW (q := 4) zd_EW_writeLong_23 rfl rfl ?_
  refine G_iload_n F zd_EW_writeLong_26 rfl (j := 1) rfl ?_
  refine G_bipush (v := (8 : Int32)) F zd_EW_writeLong_27 (by decide) ?_
  refine G_ishr F zd_EW_writeLong_29 ?_
  obtain ⟨v5, v6, hc30, h⟩ := bc2_s h
  refine G_callvV F (zk_R_add l D cB cI cJ oa ob v3 ol v4 (i1 >>> ((8 : Int32) &&& 31)) v5 v6 hc30) (rest := []) [2, 3] rfl rfl rfl (ws' := [(qa, .inr (4, [.ref qb, .int qn])), (qb, .inl (cB, ql, .inl qf)), (oa, .inr (4, [.ref ob, .int v5])), (ob, .inl (cB, ol, .inl v6)), (wa, .inr (1, [.ref qa, .ref oa]))]) rfl (q0 := 2) rfl cv_EW_26_R rfl rfl ⟨Nat.le_of_ble_eq_true rfl, Nat.le_of_ble_eq_true rfl⟩ hf0 rfl (Nat.le_of_ble_eq_true rfl) zd_EW_writeLong_30 rfl ?_
  obtain ⟨q1, q2⟩ := inj2 h
  subst q1
  subst q2
  exact E 33 _ zd_EW_writeLong_33

set_option maxHeartbeats 4000000 in
set_option maxRecDepth 100000 in
theorem zk_EW_writeCopy (l : Launch) (D : va_G) (cB cI cJ : ClassId) (qa : Nat) (qb : Nat) (oa : Nat) (ob : Nat) (wa : Nat) (qn : Int32) (ql : Nat) (qf : Nat → Int32) (on : Int32) (ol : Nat) (of : Nat → Int32) (i1 : Int32) (i2 : Int32) (on' : Int32) (of' : Nat → Int32) (h : zf_EW_writeCopy on ol of i1 i2 = some (on', of')) : CoV l zy_EW_writeCopy zw_EW_writeCopy { frames := 2, cells := 0, slots := 0, locals := 43 } D cB cI cJ [.ref wa, .int i1, .int i2] [(qa, .inr (4, [.ref qb, .int qn])), (qb, .inl (cB, ql, .inl qf)), (oa, .inr (4, [.ref ob, .int on])), (ob, .inl (cB, ol, .inl of)), (wa, .inr (1, [.ref qa, .ref oa]))] [(qa, .inr (4, [.ref qb, .int qn])), (qb, .inl (cB, ql, .inl qf)), (oa, .inr (4, [.ref ob, .int on'])), (ob, .inl (cB, ol, .inl of')), (wa, .inr (1, [.ref qa, .ref oa]))] := by
  unfold zf_EW_writeCopy at h
  refine CoV.ofG (cc := zc_EW_writeCopy) (maxL := 3) (own := RX1) (by decide) rfl rfl rfl trivial (Nat.le_of_ble_eq_true rfl) (L0 := [(0, .ref wa), (1, .int i1), (2, .int i2)]) rfl (fun k F E => ?_)
  refine G_iload_n F zd_EW_writeCopy_0 rfl (j := 2) rfl ?_
  refine G_iconst (v := (4 : Int32)) F zd_EW_writeCopy_1 (by decide) ?_
  refine G_icmp_lt F zd_EW_writeCopy_2 (tgt := 50) rfl (fun h0 => ?_) (fun h0 => ?_)
  · have h := iP h h0
    refine G_aload_n F zd_EW_writeCopy_50 rfl (j := 0) rfl ?_
    refine G_iload_n F zd_EW_writeCopy_51 rfl (j := 1) rfl ?_
    refine G_iload_n F zd_EW_writeCopy_52 rfl (j := 2) rfl ?_
    obtain ⟨v1, v2, hc53, h⟩ := bc2_s h
    refine G_callvV F (zk_EW_writeLong l D cB cI cJ qa qb oa ob wa qn ql qf on ol of i1 i2 v1 v2 hc53) (rest := []) [0, 1, 2, 3, 4] rfl rfl rfl (ws' := [(qa, .inr (4, [.ref qb, .int qn])), (qb, .inl (cB, ql, .inl qf)), (oa, .inr (4, [.ref ob, .int v1])), (ob, .inl (cB, ol, .inl v2)), (wa, .inr (1, [.ref qa, .ref oa]))]) rfl (q0 := 4) rfl cv_EW_34_EW rfl rfl ⟨Nat.le_of_ble_eq_true rfl, Nat.le_of_ble_eq_true rfl⟩ hf0 rfl (Nat.le_of_ble_eq_true rfl) zd_EW_writeCopy_53 rfl ?_
    obtain ⟨q1, q2⟩ := inj2 h
    subst q1
    subst q2
    exact E 56 _ zd_EW_writeCopy_56
  · have h := iN h h0
    refine G_iload_n F zd_EW_writeCopy_5 rfl (j := 2) rfl ?_
    refine G_bipush (v := (11 : Int32)) F zd_EW_writeCopy_6 (by decide) ?_
    refine G_icmp_gt F zd_EW_writeCopy_8 (tgt := 50) rfl (fun h0 => ?_) (fun h0 => ?_)
    · have h := iP h h0
      refine G_aload_n F zd_EW_writeCopy_50 rfl (j := 0) rfl ?_
      refine G_iload_n F zd_EW_writeCopy_51 rfl (j := 1) rfl ?_
      refine G_iload_n F zd_EW_writeCopy_52 rfl (j := 2) rfl ?_
      obtain ⟨v3, v4, hc53, h⟩ := bc2_s h
      refine G_callvV F (zk_EW_writeLong l D cB cI cJ qa qb oa ob wa qn ql qf on ol of i1 i2 v3 v4 hc53) (rest := []) [0, 1, 2, 3, 4] rfl rfl rfl (ws' := [(qa, .inr (4, [.ref qb, .int qn])), (qb, .inl (cB, ql, .inl qf)), (oa, .inr (4, [.ref ob, .int v3])), (ob, .inl (cB, ol, .inl v4)), (wa, .inr (1, [.ref qa, .ref oa]))]) rfl (q0 := 4) rfl cv_EW_34_EW rfl rfl ⟨Nat.le_of_ble_eq_true rfl, Nat.le_of_ble_eq_true rfl⟩ hf0 rfl (Nat.le_of_ble_eq_true rfl) zd_EW_writeCopy_53 rfl ?_
      obtain ⟨q1, q2⟩ := inj2 h
      subst q1
      subst q2
      exact E 56 _ zd_EW_writeCopy_56
    · have h := iN h h0
      refine G_iload_n F zd_EW_writeCopy_11 rfl (j := 1) rfl ?_
      refine G_sipush (v := (2048 : Int32)) F zd_EW_writeCopy_12 (by decide) ?_
      refine G_icmp_ge F zd_EW_writeCopy_15 (tgt := 50) rfl (fun h0 => ?_) (fun h0 => ?_)
      · have h := iP h h0
        refine G_aload_n F zd_EW_writeCopy_50 rfl (j := 0) rfl ?_
        refine G_iload_n F zd_EW_writeCopy_51 rfl (j := 1) rfl ?_
        refine G_iload_n F zd_EW_writeCopy_52 rfl (j := 2) rfl ?_
        obtain ⟨v5, v6, hc53, h⟩ := bc2_s h
        refine G_callvV F (zk_EW_writeLong l D cB cI cJ qa qb oa ob wa qn ql qf on ol of i1 i2 v5 v6 hc53) (rest := []) [0, 1, 2, 3, 4] rfl rfl rfl (ws' := [(qa, .inr (4, [.ref qb, .int qn])), (qb, .inl (cB, ql, .inl qf)), (oa, .inr (4, [.ref ob, .int v5])), (ob, .inl (cB, ol, .inl v6)), (wa, .inr (1, [.ref qa, .ref oa]))]) rfl (q0 := 4) rfl cv_EW_34_EW rfl rfl ⟨Nat.le_of_ble_eq_true rfl, Nat.le_of_ble_eq_true rfl⟩ hf0 rfl (Nat.le_of_ble_eq_true rfl) zd_EW_writeCopy_53 rfl ?_
        obtain ⟨q1, q2⟩ := inj2 h
        subst q1
        subst q2
        exact E 56 _ zd_EW_writeCopy_56
      · have h := iN h h0
        refine G_aload_n F zd_EW_writeCopy_18 rfl (j := 0) rfl ?_
        refine G_get F fa_EW_7_EW (q := 4) zd_EW_writeCopy_19 rfl rfl ?_
        refine G_iload_n F zd_EW_writeCopy_22 rfl (j := 1) rfl ?_
        refine G_bipush (v := (8 : Int32)) F zd_EW_writeCopy_23 (by decide) ?_
        refine G_ishr F zd_EW_writeCopy_25 ?_
        refine G_iconst (v := (5 : Int32)) F zd_EW_writeCopy_26 (by decide) ?_
        refine G_ishl F zd_EW_writeCopy_27 ?_
        refine G_iload_n F zd_EW_writeCopy_28 rfl (j := 2) rfl ?_
        refine G_iconst (v := (4 : Int32)) F zd_EW_writeCopy_29 (by decide) ?_
        refine G_isub F zd_EW_writeCopy_30 ?_
        refine G_iconst (v := (2 : Int32)) F zd_EW_writeCopy_31 (by decide) ?_
        refine G_ishl F zd_EW_writeCopy_32 ?_
        refine G_ior F zd_EW_writeCopy_33 ?_
        refine G_iconst (v := (1 : Int32)) F zd_EW_writeCopy_34 (by decide) ?_
        refine G_ior F zd_EW_writeCopy_35 ?_
        obtain ⟨v7, v8, hc36, h⟩ := bc2_s h
        refine G_callvV F (zk_R_add l D cB cI cJ oa ob on ol of ((((i1 >>> ((8 : Int32) &&& 31)) <<< ((5 : Int32) &&& 31)) ||| ((i2 - (4 : Int32)) <<< ((2 : Int32) &&& 31))) ||| (1 : Int32)) v7 v8 hc36) (rest := []) [2, 3] rfl rfl rfl (ws' := [(qa, .inr (4, [.ref qb, .int qn])), (qb, .inl (cB, ql, .inl qf)), (oa, .inr (4, [.ref ob, .int v7])), (ob, .inl (cB, ol, .inl v8)), (wa, .inr (1, [.ref qa, .ref oa]))]) rfl (q0 := 2) rfl cv_EW_26_R rfl rfl ⟨Nat.le_of_ble_eq_true rfl, Nat.le_of_ble_eq_true rfl⟩ hf0 rfl (Nat.le_of_ble_eq_true rfl) zd_EW_writeCopy_36 rfl ?_
        refine G_aload_n F zd_EW_writeCopy_39 rfl (j := 0) rfl ?_
        refine G_get F fa_EW_7_EW (q := 4) zd_EW_writeCopy_40 rfl rfl ?_
        refine G_iload_n F zd_EW_writeCopy_43 rfl (j := 1) rfl ?_
        obtain ⟨v9, v10, hc44, h⟩ := bc2_s h
        refine G_callvV F (zk_R_add l D cB cI cJ oa ob v7 ol v8 i1 v9 v10 hc44) (rest := []) [2, 3] rfl rfl rfl (ws' := [(qa, .inr (4, [.ref qb, .int qn])), (qb, .inl (cB, ql, .inl qf)), (oa, .inr (4, [.ref ob, .int v9])), (ob, .inl (cB, ol, .inl v10)), (wa, .inr (1, [.ref qa, .ref oa]))]) rfl (q0 := 2) rfl cv_EW_26_R rfl rfl ⟨Nat.le_of_ble_eq_true rfl, Nat.le_of_ble_eq_true rfl⟩ hf0 rfl (Nat.le_of_ble_eq_true rfl) zd_EW_writeCopy_44 rfl ?_
        refine G_goto F zd_EW_writeCopy_47 (tgt := 56) rfl ?_
        obtain ⟨q1, q2⟩ := inj2 h
        subst q1
        subst q2
        exact E 56 _ zd_EW_writeCopy_56

set_option maxHeartbeats 4000000 in
set_option maxRecDepth 100000 in
theorem zl_EW_match_10 {k : GC} {l : Launch} {D : va_G} {cB cI cJ : ClassId} (F : GF k l { frames := 3, cells := 0, slots := 0, locals := 67 } zc_EW_match 6 RX1 D cB cI cJ) (qn : Int32) (ql : Nat) (qf : Nat → Int32) (ol : Nat) (i1 : Int32) (i2 : Int32) (i3 : Int32) (i4 : Int32) (qa : Nat) (qb : Nat) (oa : Nat) (ob : Nat) (wa : Nat) : ∀ (n : Nat) (v3 : Int32) (v4 : Int32) (v5 : Nat → Int32) (w3 : Int32) (w4 : Int32) (w5 : Nat → Int32), zf_EW_match_L10 ol i3 n v3 v4 v5 = some (w3, w4, w5) → G D 6 k 0 0 30 [(0, .ref wa), (1, .int i1), (2, .int i2), (3, .int i3), (4, .int i4), (5, .int w3)] [] [(qa, .inr (4, [.ref qb, .int qn])), (qb, .inl (cB, ql, .inl qf)), (oa, .inr (4, [.ref ob, .int w4])), (ob, .inl (cB, ol, .inl w5)), (wa, .inr (1, [.ref qa, .ref oa]))] → G D 6 k 0 0 10 [(0, .ref wa), (1, .int i1), (2, .int i2), (3, .int i3), (4, .int i4), (5, .int v3)] [] [(qa, .inr (4, [.ref qb, .int qn])), (qb, .inl (cB, ql, .inl qf)), (oa, .inr (4, [.ref ob, .int v4])), (ob, .inl (cB, ol, .inl v5)), (wa, .inr (1, [.ref qa, .ref oa]))] := by
  intro n
  induction n with
  | zero =>
    intro v3 v4 v5 w3 w4 w5 h
    rw [zf_EW_match_L10_0] at h
    cases h
  | succ n ih =>
    intro v3 v4 v5 w3 w4 w5 h hx
    have h := (zf_EW_match_L10_s ol i3 n v3 v4 v5).symm.trans h
    refine G_iload F zd_EW_match_10 (j := 5) rfl ?_
    refine G_bipush (v := (68 : Int32)) F zd_EW_match_12 (by decide) ?_
    refine G_icmp_lt F zd_EW_match_14 (tgt := 30) rfl (fun h0 => ?_) (fun h0 => ?_)
    · have h := iP h h0
      obtain ⟨q1, q2, q3⟩ := inj3 h
      subst q1
      subst q2
      subst q3
      exact G_lv [0, 1, 2, 3, 4, 5] rfl hx
    · have h := iN h h0
      refine G_aload_n F zd_EW_match_17 rfl (j := 0) rfl ?_
      refine G_iload_n F zd_EW_match_18 rfl (j := 3) rfl ?_
      refine G_bipush (v := (64 : Int32)) F zd_EW_match_19 (by decide) ?_
      obtain ⟨v6, v7, hc21, h⟩ := bc2_s h
      refine G_callvV F (zk_EW_writeLong l D cB cI cJ qa qb oa ob wa qn ql qf v4 ol v5 i3 (64 : Int32) v6 v7 hc21) (rest := []) [0, 1, 2, 3, 4] rfl rfl rfl (ws' := [(qa, .inr (4, [.ref qb, .int qn])), (qb, .inl (cB, ql, .inl qf)), (oa, .inr (4, [.ref ob, .int v6])), (ob, .inl (cB, ol, .inl v7)), (wa, .inr (1, [.ref qa, .ref oa]))]) rfl (q0 := 4) rfl cv_EW_34_EW rfl rfl ⟨Nat.le_of_ble_eq_true rfl, Nat.le_of_ble_eq_true rfl⟩ hf0 rfl (Nat.le_of_ble_eq_true rfl) zd_EW_match_21 rfl ?_
      obtain ⟨v8, ev8, h⟩ := bnd_s h
      refine G_iinc F zd_EW_match_24 (j := 5) rfl (w := (-64 : Int32)) (by decide) ev8 (by decide) (L' := [(5, .int v8), (0, .ref wa), (1, .int i1), (2, .int i2), (3, .int i3), (4, .int i4)]) rfl ?_
      refine G_goto F zd_EW_match_27 (tgt := 10) rfl ?_
      exact G_lv [1, 2, 3, 4, 5, 0] rfl (ih _ _ _ _ _ _ h hx)
set_option maxHeartbeats 4000000 in
set_option maxRecDepth 100000 in
theorem zk_EW_match (l : Launch) (D : va_G) (cB cI cJ : ClassId) (qa : Nat) (qb : Nat) (oa : Nat) (ob : Nat) (wa : Nat) (qn : Int32) (ql : Nat) (qf : Nat → Int32) (on : Int32) (ol : Nat) (of : Nat → Int32) (i1 : Int32) (i2 : Int32) (i3 : Int32) (i4 : Int32) (on' : Int32) (of' : Nat → Int32) (h : zf_EW_match qn ql qf on ol of i1 i2 i3 i4 = some (on', of')) : CoV l zy_EW_match zw_EW_match { frames := 3, cells := 0, slots := 0, locals := 67 } D cB cI cJ [.ref wa, .int i1, .int i2, .int i3, .int i4] [(qa, .inr (4, [.ref qb, .int qn])), (qb, .inl (cB, ql, .inl qf)), (oa, .inr (4, [.ref ob, .int on])), (ob, .inl (cB, ol, .inl of)), (wa, .inr (1, [.ref qa, .ref oa]))] [(qa, .inr (4, [.ref qb, .int qn])), (qb, .inl (cB, ql, .inl qf)), (oa, .inr (4, [.ref ob, .int on'])), (ob, .inl (cB, ol, .inl of')), (wa, .inr (1, [.ref qa, .ref oa]))] := by
  unfold zf_EW_match at h
  refine CoV.ofG (cc := zc_EW_match) (maxL := 6) (own := RX1) (by decide) rfl rfl rfl trivial (Nat.le_of_ble_eq_true rfl) (L0 := [(0, .ref wa), (1, .int i1), (2, .int i2), (3, .int i3), (4, .int i4)]) rfl (fun k F E => ?_)
  refine G_aload_n F zd_EW_match_0 rfl (j := 0) rfl ?_
  refine G_iload_n F zd_EW_match_1 rfl (j := 1) rfl ?_
  refine G_iload_n F zd_EW_match_2 rfl (j := 2) rfl ?_
  obtain ⟨v1, v2, hc3, h⟩ := bc2_s h
  refine G_callvV F (zk_EW_writeLiterals l D cB cI cJ qa qb oa ob wa qn ql qf on ol of i1 i2 v1 v2 hc3) (rest := []) [0, 1, 2, 3, 4] rfl rfl rfl (ws' := [(qa, .inr (4, [.ref qb, .int qn])), (qb, .inl (cB, ql, .inl qf)), (oa, .inr (4, [.ref ob, .int v1])), (ob, .inl (cB, ol, .inl v2)), (wa, .inr (1, [.ref qa, .ref oa]))]) rfl (q0 := 4) rfl cv_EW_30_EW rfl rfl ⟨Nat.le_of_ble_eq_true rfl, Nat.le_of_ble_eq_true rfl⟩ hf0 rfl (Nat.le_of_ble_eq_true rfl) zd_EW_match_3 rfl ?_
  refine G_iload F zd_EW_match_6 (j := 4) rfl ?_
  refine G_istore F zd_EW_match_8 (by decide) (L' := [(5, .int i4), (0, .ref wa), (1, .int i1), (2, .int i2), (3, .int i3), (4, .int i4)]) rfl ?_
  obtain ⟨x9, x10, x11, hl10, h⟩ := bc3_s h
  refine G_lv [1, 2, 3, 4, 5, 0] rfl (zl_EW_match_10 F qn ql qf ol i1 i2 i3 i4 qa qb oa ob wa 1000 i4 v1 v2 x9 x10 x11 hl10 ?_)
  refine G_iload F zd_EW_match_30 (j := 5) rfl ?_
  refine G_bipush (v := (64 : Int32)) F zd_EW_match_32 (by decide) ?_
  obtain ⟨u12, u13, u14, hj47, h⟩ := bc3_s h
  have X47 : G D 6 k 0 0 47 [(0, .ref wa), (1, .int i1), (2, .int i2), (3, .int i3), (4, .int i4), (5, .int u12)] [] [(qa, .inr (4, [.ref qb, .int qn])), (qb, .inl (cB, ql, .inl qf)), (oa, .inr (4, [.ref ob, .int u13])), (ob, .inl (cB, ol, .inl u14)), (wa, .inr (1, [.ref qa, .ref oa]))] := by
    refine G_aload_n F zd_EW_match_47 rfl (j := 0) rfl ?_
    refine G_iload_n F zd_EW_match_48 rfl (j := 3) rfl ?_
    refine G_iload F zd_EW_match_49 (j := 5) rfl ?_
    obtain ⟨v18, v19, hc51, h⟩ := bc2_s h
    refine G_callvV F (zk_EW_writeCopy l D cB cI cJ qa qb oa ob wa qn ql qf u13 ol u14 i3 u12 v18 v19 hc51) (rest := []) [0, 1, 2, 3, 4] rfl rfl rfl (ws' := [(qa, .inr (4, [.ref qb, .int qn])), (qb, .inl (cB, ql, .inl qf)), (oa, .inr (4, [.ref ob, .int v18])), (ob, .inl (cB, ol, .inl v19)), (wa, .inr (1, [.ref qa, .ref oa]))]) rfl (q0 := 4) rfl cv_EW_37_EW rfl rfl ⟨Nat.le_of_ble_eq_true rfl, Nat.le_of_ble_eq_true rfl⟩ hf0 rfl (Nat.le_of_ble_eq_true rfl) zd_EW_match_51 rfl ?_
    obtain ⟨q1, q2⟩ := inj2 h
    subst q1
    subst q2
    exact E 54 _ zd_EW_match_54
  have h := hj47
  refine G_icmp_le F zd_EW_match_34 (tgt := 47) rfl (fun h0 => ?_) (fun h0 => ?_)
  · have h := iP h h0
    obtain ⟨q1, q2, q3⟩ := inj3 h
    subst q1
    subst q2
    subst q3
    exact G_lv [0, 1, 2, 3, 4, 5] rfl X47
  · have h := iN h h0
    refine G_aload_n F zd_EW_match_37 rfl (j := 0) rfl ?_
    refine G_iload_n F zd_EW_match_38 rfl (j := 3) rfl ?_
    refine G_bipush (v := (60 : Int32)) F zd_EW_match_39 (by decide) ?_
    obtain ⟨v15, v16, hc41, h⟩ := bc2_s h
    refine G_callvV F (zk_EW_writeLong l D cB cI cJ qa qb oa ob wa qn ql qf x10 ol x11 i3 (60 : Int32) v15 v16 hc41) (rest := []) [0, 1, 2, 3, 4] rfl rfl rfl (ws' := [(qa, .inr (4, [.ref qb, .int qn])), (qb, .inl (cB, ql, .inl qf)), (oa, .inr (4, [.ref ob, .int v15])), (ob, .inl (cB, ol, .inl v16)), (wa, .inr (1, [.ref qa, .ref oa]))]) rfl (q0 := 4) rfl cv_EW_34_EW rfl rfl ⟨Nat.le_of_ble_eq_true rfl, Nat.le_of_ble_eq_true rfl⟩ hf0 rfl (Nat.le_of_ble_eq_true rfl) zd_EW_match_41 rfl ?_
    obtain ⟨v17, ev17, h⟩ := bnd_s h
    refine G_iinc F zd_EW_match_44 (j := 5) rfl (w := (-60 : Int32)) (by decide) ev17 (by decide) (L' := [(5, .int v17), (0, .ref wa), (1, .int i1), (2, .int i2), (3, .int i3), (4, .int i4)]) rfl ?_
    obtain ⟨q1, q2, q3⟩ := inj3 h
    subst q1
    subst q2
    subst q3
    exact G_lv [1, 2, 3, 4, 5, 0] rfl X47

set_option maxHeartbeats 4000000 in
set_option maxRecDepth 100000 in
theorem zk_P_copyFrom_E (l : Launch) (D : va_G) (cB cI cJ : ClassId) (pa : Nat) (pb : Nat) (qa : Nat) (qb : Nat) (ka : Nat) (ha : Nat) (ta : Nat) (oa : Nat) (ob : Nat) (wa : Nat) (pn : Int32) (pl : Nat) (pf : Nat → Int32) (qn : Int32) (ql : Nat) (qf : Nat → Int32) (tf : Nat → Int32) (an : Int32) (mt : Int32) (co : Int32) (i1 : Int32) (on : Int32) (ol : Nat) (of : Nat → Int32) (r : Int32) (an' : Int32) (mt' : Int32) (co' : Int32) (tf' : Nat → Int32) (on' : Int32) (of' : Nat → Int32) (h : zf_P_copyFrom_E pn pl pf qn ql qf tf an mt co i1 on ol of = some (r, an', mt', co', tf', on', of')) : CoI l zy_P_copyFrom zw_P_copyFrom { frames := 4, cells := 0, slots := 0, locals := 92 } D cB cI cJ [.ref ka, .int i1, .ref wa] [(pa, .inr (4, [.ref pb, .int pn])), (pb, .inl (cB, pl, .inl pf)), (qa, .inr (4, [.ref qb, .int qn])), (qb, .inl (cB, ql, .inl qf)), (ha, .inr (2, [.ref pa, .ref qa])), (ka, .inr (3, [.ref pa, .ref qa, .ref ha, .ref ta, .int an, .int mt, .int co])), (ta, .inl (cI, 32, .inl tf)), (oa, .inr (4, [.ref ob, .int on])), (ob, .inl (cB, ol, .inl of)), (wa, .inr (1, [.ref qa, .ref oa]))] r [(pa, .inr (4, [.ref pb, .int pn])), (pb, .inl (cB, pl, .inl pf)), (qa, .inr (4, [.ref qb, .int qn])), (qb, .inl (cB, ql, .inl qf)), (ha, .inr (2, [.ref pa, .ref qa])), (ka, .inr (3, [.ref pa, .ref qa, .ref ha, .ref ta, .int an', .int mt', .int co'])), (ta, .inl (cI, 32, .inl tf')), (oa, .inr (4, [.ref ob, .int on'])), (ob, .inl (cB, ol, .inl of')), (wa, .inr (1, [.ref qa, .ref oa]))] := by
  unfold zf_P_copyFrom_E at h
  refine CoI.ofG (cc := zc_P_copyFrom) (maxL := 6) (own := RX3) (by decide) rfl rfl rfl trivial (Nat.le_of_ble_eq_true rfl) (L0 := [(0, .ref ka), (1, .int i1), (2, .ref wa)]) rfl (fun k F E => ?_)
  refine G_aload_n F zd_P_copyFrom_0 rfl (j := 0) rfl ?_
  refine G_get F fa_P_7_P (q := 5) zd_P_copyFrom_1 rfl rfl ?_
  refine G_get F fa_P_47_R (q := 0) zd_P_copyFrom_4 rfl rfl ?_
  refine G_iload_n F zd_P_copyFrom_7 rfl (j := 1) rfl ?_
  refine G_iadd F zd_P_copyFrom_8 ?_
  obtain ⟨v1, ev1, h⟩ := bnd_s h
  refine G_topi ev1 ?_
  refine G_istore_n F zd_P_copyFrom_9 rfl (by decide) (L' := [(3, .int v1), (0, .ref ka), (1, .int i1), (2, .ref wa)]) rfl ?_
  refine G_aload_n F zd_P_copyFrom_10 rfl (j := 1) rfl ?_
  refine G_iload_n F zd_P_copyFrom_11 rfl (j := 0) rfl ?_
  obtain ⟨v2, v3, hc12, h⟩ := bc2_s h
  refine G_calliV F (zk_P_exchange l D cB cI cJ pa pb qa qb ka ha ta pn pl pf qn ql qf tf an mt co v1 v2 v3 hc12) (rest := []) [0, 1, 2, 3, 4, 5, 6] rfl rfl rfl (ws' := [(pa, .inr (4, [.ref pb, .int pn])), (pb, .inl (cB, pl, .inl pf)), (qa, .inr (4, [.ref qb, .int qn])), (qb, .inl (cB, ql, .inl qf)), (ha, .inr (2, [.ref pa, .ref qa])), (ka, .inr (3, [.ref pa, .ref qa, .ref ha, .ref ta, .int an, .int mt, .int co])), (ta, .inl (cI, 32, .inl v3)), (oa, .inr (4, [.ref ob, .int on])), (ob, .inl (cB, ol, .inl of)), (wa, .inr (1, [.ref qa, .ref oa]))]) rfl (q0 := 5) rfl cv_P_66_P rfl rfl ⟨Nat.le_of_ble_eq_true rfl, Nat.le_of_ble_eq_true rfl⟩ hf0 rfl (Nat.le_of_ble_eq_true rfl) zd_P_copyFrom_12 rfl ?_
  refine G_istore F zd_P_copyFrom_15 (by decide) (L' := [(4, .int v2), (3, .int v1), (0, .ref ka), (1, .int i1), (2, .ref wa)]) rfl ?_
  refine G_iload F zd_P_copyFrom_17 (j := 0) rfl ?_
  refine G_iconst (v := (-1 : Int32)) F zd_P_copyFrom_19 (by decide) ?_
  refine G_icmp_eq F zd_P_copyFrom_20 (tgt := 43) rfl (fun h0 => ?_) (fun h0 => ?_)
  · have h := iP h h0
    refine G_iconst (v := (0 : Int32)) F zd_P_copyFrom_43 (by decide) ?_
    obtain ⟨q1, q2, q3, q4, q5, q6, q7⟩ := inj7 h
    subst q1
    subst q2
    subst q3
    subst q4
    subst q5
    subst q6
    subst q7
    exact E 44 _ zd_P_copyFrom_44
  · have h := iN h h0
    refine G_aload_n F zd_P_copyFrom_23 rfl (j := 2) rfl ?_
    refine G_get F fa_P_21_P (q := 5) zd_P_copyFrom_24 rfl rfl ?_
    refine G_iload F zd_P_copyFrom_27 (j := 0) rfl ?_
    obtain ⟨v4, hc29, h⟩ := bc1_s h
    refine G_calliV0 F (zk_H_intAt l D cB cI cJ pa pb qa qb ha pn pl pf qn ql qf v2 v4 hc29) (rest := []) [0, 1, 2, 3, 4] rfl rfl (q0 := 4) rfl cv_P_70_H rfl rfl ⟨Nat.le_of_ble_eq_true rfl, Nat.le_of_ble_eq_true rfl⟩ hf0 rfl (Nat.le_of_ble_eq_true rfl) zd_P_copyFrom_29 rfl ?_
    refine G_aload_n F zd_P_copyFrom_32 rfl (j := 2) rfl ?_
    refine G_get F fa_P_21_P (q := 5) zd_P_copyFrom_33 rfl rfl ?_
    refine G_iload_n F zd_P_copyFrom_36 rfl (j := 1) rfl ?_
    obtain ⟨v5, hc37, h⟩ := bc1_s h
    refine G_calliV0 F (zk_H_intAt l D cB cI cJ pa pb qa qb ha pn pl pf qn ql qf v1 v5 hc37) (rest := [.int v4]) [0, 1, 2, 3, 4] rfl rfl (q0 := 4) rfl cv_P_70_H rfl rfl ⟨Nat.le_of_ble_eq_true rfl, Nat.le_of_ble_eq_true rfl⟩ hf0 rfl (Nat.le_of_ble_eq_true rfl) zd_P_copyFrom_37 rfl ?_
    refine G_icmp_eq F zd_P_copyFrom_40 (tgt := 45) rfl (fun h0 => ?_) (fun h0 => ?_)
    · have h := iP h h0
      refine G_aload_n F zd_P_copyFrom_45 rfl (j := 2) rfl ?_
      refine G_iload F zd_P_copyFrom_46 (j := 0) rfl ?_
      refine G_iload_n F zd_P_copyFrom_48 rfl (j := 1) rfl ?_
      obtain ⟨v6, hc49, h⟩ := bc1_s h
      refine G_calliV0 F (zk_P_matchLength l D cB cI cJ pa pb qa qb ka ha ta pn pl pf qn ql qf v3 an mt co v2 v1 v6 hc49) (rest := []) [0, 1, 2, 3, 4, 5, 6] rfl rfl (q0 := 5) rfl cv_P_73_P rfl rfl ⟨Nat.le_of_ble_eq_true rfl, Nat.le_of_ble_eq_true rfl⟩ hf0 rfl (Nat.le_of_ble_eq_true rfl) zd_P_copyFrom_49 rfl ?_
      refine G_istore F zd_P_copyFrom_52 (by decide) (L' := [(5, .int v6), (4, .int v2), (3, .int v1), (0, .ref ka), (1, .int i1), (2, .ref wa)]) rfl ?_
      refine G_aload_n F zd_P_copyFrom_54 rfl (j := 5) rfl ?_
      refine G_aload_n F zd_P_copyFrom_55 rfl (j := 3) rfl ?_
      refine G_get F fa_P_29_P (q := 5) zd_P_copyFrom_56 rfl rfl ?_
      refine G_iload_n F zd_P_copyFrom_59 rfl (j := 4) rfl ?_
      refine G_iload_n F zd_P_copyFrom_60 rfl (j := 2) rfl ?_
      refine G_iload F zd_P_copyFrom_61 (j := 1) rfl ?_
      refine G_isub F zd_P_copyFrom_63 ?_
      refine G_iload F zd_P_copyFrom_64 (j := 0) rfl ?_
      obtain ⟨v7, v8, hc66, h⟩ := bc2_s h
      refine G_callvA F (zk_EW_match l D cB cI cJ qa qb oa ob wa qn ql qf on ol of an i1 (v1 - v2) v6 v7 v8 hc66) (rest := []) [2, 3, 7, 8, 9] rfl rfl rfl (ws' := [(pa, .inr (4, [.ref pb, .int pn])), (pb, .inl (cB, pl, .inl pf)), (qa, .inr (4, [.ref qb, .int qn])), (qb, .inl (cB, ql, .inl qf)), (ha, .inr (2, [.ref pa, .ref qa])), (ka, .inr (3, [.ref pa, .ref qa, .ref ha, .ref ta, .int an, .int mt, .int co])), (ta, .inl (cI, 32, .inl v3)), (oa, .inr (4, [.ref ob, .int v7])), (ob, .inl (cB, ol, .inl v8)), (wa, .inr (1, [.ref qa, .ref oa]))]) rfl (q0 := 9) rfl (x := ⟨"PressSuite$Writer", "match", "(IIII)V"⟩) cv_P_76_EW rfl rfl ⟨Nat.le_of_ble_eq_true rfl, Nat.le_of_ble_eq_true rfl⟩ hf0 rfl (Nat.le_of_ble_eq_true rfl) zd_P_copyFrom_66 rfl ?_
      refine G_aload_n F zd_P_copyFrom_69 rfl (j := 3) rfl ?_
      refine G_iload_n F zd_P_copyFrom_70 rfl (j := 4) rfl ?_
      refine G_iload F zd_P_copyFrom_71 (j := 0) rfl ?_
      refine G_iadd F zd_P_copyFrom_73 ?_
      obtain ⟨v9, ev9, h⟩ := bnd_s h
      refine G_topi ev9 ?_
      refine G_put F fp_P_29_P (q := 5) zd_P_copyFrom_74 rfl (Nat.le_of_ble_eq_true rfl) (ws' := [(pa, .inr (4, [.ref pb, .int pn])), (pb, .inl (cB, pl, .inl pf)), (qa, .inr (4, [.ref qb, .int qn])), (qb, .inl (cB, ql, .inl qf)), (ha, .inr (2, [.ref pa, .ref qa])), (ka, .inr (3, [.ref pa, .ref qa, .ref ha, .ref ta, .int v9, .int mt, .int co])), (ta, .inl (cI, 32, .inl v3)), (oa, .inr (4, [.ref ob, .int v7])), (ob, .inl (cB, ol, .inl v8)), (wa, .inr (1, [.ref qa, .ref oa]))]) rfl ?_
      refine G_aload_n F zd_P_copyFrom_77 rfl (j := 3) rfl ?_
      refine G_dup F zd_P_copyFrom_78 rfl ?_
      refine G_get F fa_P_33_P (q := 5) zd_P_copyFrom_79 rfl rfl ?_
      refine G_iconst (v := (1 : Int32)) F zd_P_copyFrom_82 (by decide) ?_
      refine G_iadd F zd_P_copyFrom_83 ?_
      obtain ⟨v10, ev10, h⟩ := bnd_s h
      refine G_topi ev10 ?_
      refine G_put F fp_P_33_P (q := 5) zd_P_copyFrom_84 rfl (Nat.le_of_ble_eq_true rfl) (ws' := [(pa, .inr (4, [.ref pb, .int pn])), (pb, .inl (cB, pl, .inl pf)), (qa, .inr (4, [.ref qb, .int qn])), (qb, .inl (cB, ql, .inl qf)), (ha, .inr (2, [.ref pa, .ref qa])), (ka, .inr (3, [.ref pa, .ref qa, .ref ha, .ref ta, .int v9, .int v10, .int co])), (ta, .inl (cI, 32, .inl v3)), (oa, .inr (4, [.ref ob, .int v7])), (ob, .inl (cB, ol, .inl v8)), (wa, .inr (1, [.ref qa, .ref oa]))]) rfl ?_
      refine G_aload_n F zd_P_copyFrom_87 rfl (j := 3) rfl ?_
      refine G_dup F zd_P_copyFrom_88 rfl ?_
      refine G_get F fa_P_36_P (q := 5) zd_P_copyFrom_89 rfl rfl ?_
      refine G_iload F zd_P_copyFrom_92 (j := 0) rfl ?_
      refine G_iadd F zd_P_copyFrom_94 ?_
      obtain ⟨v11, ev11, h⟩ := bnd_s h
      refine G_topi ev11 ?_
      refine G_put F fp_P_36_P (q := 5) zd_P_copyFrom_95 rfl (Nat.le_of_ble_eq_true rfl) (ws' := [(pa, .inr (4, [.ref pb, .int pn])), (pb, .inl (cB, pl, .inl pf)), (qa, .inr (4, [.ref qb, .int qn])), (qb, .inl (cB, ql, .inl qf)), (ha, .inr (2, [.ref pa, .ref qa])), (ka, .inr (3, [.ref pa, .ref qa, .ref ha, .ref ta, .int v9, .int v10, .int v11])), (ta, .inl (cI, 32, .inl v3)), (oa, .inr (4, [.ref ob, .int v7])), (ob, .inl (cB, ol, .inl v8)), (wa, .inr (1, [.ref qa, .ref oa]))]) rfl ?_
      refine G_iload F zd_P_copyFrom_98 (j := 0) rfl ?_
      obtain ⟨q1, q2, q3, q4, q5, q6, q7⟩ := inj7 h
      subst q1
      subst q2
      subst q3
      subst q4
      subst q5
      subst q6
      subst q7
      exact E 100 _ zd_P_copyFrom_100
    · have h := iN h h0
      refine G_iconst (v := (0 : Int32)) F zd_P_copyFrom_43 (by decide) ?_
      obtain ⟨q1, q2, q3, q4, q5, q6, q7⟩ := inj7 h
      subst q1
      subst q2
      subst q3
      subst q4
      subst q5
      subst q6
      subst q7
      exact E 44 _ zd_P_copyFrom_44

set_option maxHeartbeats 4000000 in
set_option maxRecDepth 100000 in
theorem zk_EW_end (l : Launch) (D : va_G) (cB cI cJ : ClassId) (qa : Nat) (qb : Nat) (oa : Nat) (ob : Nat) (wa : Nat) (qn : Int32) (ql : Nat) (qf : Nat → Int32) (on : Int32) (ol : Nat) (of : Nat → Int32) (i1 : Int32) (on' : Int32) (of' : Nat → Int32) (h : zf_EW_end qn ql qf on ol of i1 = some (on', of')) : CoV l zy_EW_end zw_EW_end { frames := 3, cells := 0, slots := 0, locals := 67 } D cB cI cJ [.ref wa, .int i1] [(qa, .inr (4, [.ref qb, .int qn])), (qb, .inl (cB, ql, .inl qf)), (oa, .inr (4, [.ref ob, .int on])), (ob, .inl (cB, ol, .inl of)), (wa, .inr (1, [.ref qa, .ref oa]))] [(qa, .inr (4, [.ref qb, .int qn])), (qb, .inl (cB, ql, .inl qf)), (oa, .inr (4, [.ref ob, .int on'])), (ob, .inl (cB, ol, .inl of')), (wa, .inr (1, [.ref qa, .ref oa]))] := by
  unfold zf_EW_end at h
  refine CoV.ofG (cc := zc_EW_end) (maxL := 2) (own := RX1) (by decide) rfl rfl rfl trivial (Nat.le_of_ble_eq_true rfl) (L0 := [(0, .ref wa), (1, .int i1)]) rfl (fun k F E => ?_)
  refine G_aload_n F zd_EW_end_0 rfl (j := 0) rfl ?_
  refine G_iload_n F zd_EW_end_1 rfl (j := 1) rfl ?_
  refine G_aload_n F zd_EW_end_2 rfl (j := 0) rfl ?_
  refine G_get F fa_EW_19_EW (q := 4) zd_EW_end_3 rfl rfl ?_
  refine G_get F fa_EW_22_R (q := 0) zd_EW_end_6 rfl rfl ?_
  obtain ⟨v1, v2, hc9, h⟩ := bc2_s h
  refine G_callvV F (zk_EW_writeLiterals l D cB cI cJ qa qb oa ob wa qn ql qf on ol of i1 qn v1 v2 hc9) (rest := []) [0, 1, 2, 3, 4] rfl rfl rfl (ws' := [(qa, .inr (4, [.ref qb, .int qn])), (qb, .inl (cB, ql, .inl qf)), (oa, .inr (4, [.ref ob, .int v1])), (ob, .inl (cB, ol, .inl v2)), (wa, .inr (1, [.ref qa, .ref oa]))]) rfl (q0 := 4) rfl cv_EW_30_EW rfl rfl ⟨Nat.le_of_ble_eq_true rfl, Nat.le_of_ble_eq_true rfl⟩ hf0 rfl (Nat.le_of_ble_eq_true rfl) zd_EW_end_9 rfl ?_
  obtain ⟨q1, q2⟩ := inj2 h
  subst q1
  subst q2
  exact E 12 _ zd_EW_end_12

set_option maxHeartbeats 4000000 in
set_option maxRecDepth 100000 in
theorem zl_P_run_E_25 {k : GC} {l : Launch} {D : va_G} {cB cI cJ : ClassId} (F : GF k l { frames := 5, cells := 0, slots := 0, locals := 117 } zc_P_run 3 RX3 D cB cI cJ) (pn : Int32) (pl : Nat) (pf : Nat → Int32) (qn : Int32) (ql : Nat) (qf : Nat → Int32) (ol : Nat) (pa : Nat) (pb : Nat) (qa : Nat) (qb : Nat) (ka : Nat) (ha : Nat) (ta : Nat) (oa : Nat) (ob : Nat) (wa : Nat) : ∀ (n : Nat) (v4 : Int32) (v5 : Int32) (v6 : Int32) (v7 : Int32) (v8 : Nat → Int32) (v9 : Int32) (v10 : Nat → Int32) (w4 : Int32) (w5 : Int32) (w6 : Int32) (w7 : Int32) (w8 : Nat → Int32) (w9 : Int32) (w10 : Nat → Int32), zf_P_run_E_L25 pn pl pf qn ql qf ol n v4 v5 v6 v7 v8 v9 v10 = some (w4, w5, w6, w7, w8, w9, w10) → G D 3 k 0 0 55 [(0, .ref ka), (1, .ref wa), (2, .int w4)] [] [(pa, .inr (4, [.ref pb, .int pn])), (pb, .inl (cB, pl, .inl pf)), (qa, .inr (4, [.ref qb, .int qn])), (qb, .inl (cB, ql, .inl qf)), (ha, .inr (2, [.ref pa, .ref qa])), (ka, .inr (3, [.ref pa, .ref qa, .ref ha, .ref ta, .int w5, .int w6, .int w7])), (ta, .inl (cI, 32, .inl w8)), (oa, .inr (4, [.ref ob, .int w9])), (ob, .inl (cB, ol, .inl w10)), (wa, .inr (1, [.ref qa, .ref oa]))] → G D 3 k 0 0 25 [(0, .ref ka), (1, .ref wa), (2, .int v4)] [] [(pa, .inr (4, [.ref pb, .int pn])), (pb, .inl (cB, pl, .inl pf)), (qa, .inr (4, [.ref qb, .int qn])), (qb, .inl (cB, ql, .inl qf)), (ha, .inr (2, [.ref pa, .ref qa])), (ka, .inr (3, [.ref pa, .ref qa, .ref ha, .ref ta, .int v5, .int v6, .int v7])), (ta, .inl (cI, 32, .inl v8)), (oa, .inr (4, [.ref ob, .int v9])), (ob, .inl (cB, ol, .inl v10)), (wa, .inr (1, [.ref qa, .ref oa]))] := by
  intro n
  induction n with
  | zero =>
    intro v4 v5 v6 v7 v8 v9 v10 w4 w5 w6 w7 w8 w9 w10 h
    rw [zf_P_run_E_L25_0] at h
    cases h
  | succ n ih =>
    intro v4 v5 v6 v7 v8 v9 v10 w4 w5 w6 w7 w8 w9 w10 h hx
    have h := (zf_P_run_E_L25_s pn pl pf qn ql qf ol n v4 v5 v6 v7 v8 v9 v10).symm.trans h
    refine G_iload_n F zd_P_run_25 rfl (j := 2) rfl ?_
    refine G_bipush (v := (12 : Int32)) F zd_P_run_26 (by decide) ?_
    refine G_iadd F zd_P_run_28 ?_
    refine G_aload_n F zd_P_run_29 rfl (j := 0) rfl ?_
    refine G_get F fa_P_13_P (q := 5) zd_P_run_30 rfl rfl ?_
    refine G_get F fa_P_47_R (q := 2) zd_P_run_33 rfl rfl ?_
    refine G_icmp_gt F zd_P_run_36 (tgt := 55) rfl (fun h0 => ?_) (fun h0 => ?_)
    · have h := iP h h0
      obtain ⟨q1, q2, q3, q4, q5, q6, q7⟩ := inj7 h
      subst q1
      subst q2
      subst q3
      subst q4
      subst q5
      subst q6
      subst q7
      exact G_lv [0, 1, 2] rfl hx
    · have h := iN h h0
      refine G_iload_n F zd_P_run_39 rfl (j := 2) rfl ?_
      refine G_iconst (v := (1 : Int32)) F zd_P_run_40 (by decide) ?_
      refine G_aload_n F zd_P_run_41 rfl (j := 0) rfl ?_
      refine G_iload_n F zd_P_run_42 rfl (j := 2) rfl ?_
      refine G_aload_n F zd_P_run_43 rfl (j := 1) rfl ?_
      obtain ⟨v11, v12, v13, v14, v15, v16, v17, hc44, h⟩ := bc7_s h
      refine G_calliV F (zk_P_copyFrom_E l D cB cI cJ pa pb qa qb ka ha ta oa ob wa pn pl pf qn ql qf v8 v5 v6 v7 v4 v9 ol v10 v11 v12 v13 v14 v15 v16 v17 hc44) (rest := [.int (1 : Int32), .int v4]) [0, 1, 2, 3, 4, 5, 6, 7, 8, 9] rfl rfl rfl (ws' := [(pa, .inr (4, [.ref pb, .int pn])), (pb, .inl (cB, pl, .inl pf)), (qa, .inr (4, [.ref qb, .int qn])), (qb, .inl (cB, ql, .inl qf)), (ha, .inr (2, [.ref pa, .ref qa])), (ka, .inr (3, [.ref pa, .ref qa, .ref ha, .ref ta, .int v12, .int v13, .int v14])), (ta, .inl (cI, 32, .inl v15)), (oa, .inr (4, [.ref ob, .int v16])), (ob, .inl (cB, ol, .inl v17)), (wa, .inr (1, [.ref qa, .ref oa]))]) rfl (q0 := 5) rfl cv_P_52_P rfl rfl ⟨Nat.le_of_ble_eq_true rfl, Nat.le_of_ble_eq_true rfl⟩ hf0 rfl (Nat.le_of_ble_eq_true rfl) zd_P_run_44 rfl ?_
      obtain ⟨v18, ev18, h⟩ := bnd_s h
      refine G_mmax F cm_P_56 zd_P_run_47 ev18 (by decide) hf0 (Nat.le_of_ble_eq_true rfl) ?_
      refine G_iadd F zd_P_run_50 ?_
      obtain ⟨v19, ev19, h⟩ := bnd_s h
      refine G_topi ev19 ?_
      refine G_istore_n F zd_P_run_51 rfl (by decide) (L' := [(2, .int v19), (0, .ref ka), (1, .ref wa)]) rfl ?_
      refine G_goto F zd_P_run_52 (tgt := 25) rfl ?_
      exact G_lv [1, 2, 0] rfl (ih _ _ _ _ _ _ _ _ _ _ _ _ _ _ h hx)
set_option maxHeartbeats 4000000 in
set_option maxRecDepth 100000 in
theorem zk_P_run_E (l : Launch) (D : va_G) (cB cI cJ : ClassId) (pa : Nat) (pb : Nat) (qa : Nat) (qb : Nat) (ka : Nat) (ha : Nat) (ta : Nat) (oa : Nat) (ob : Nat) (wa : Nat) (pn : Int32) (pl : Nat) (pf : Nat → Int32) (qn : Int32) (ql : Nat) (qf : Nat → Int32) (tf : Nat → Int32) (an : Int32) (mt : Int32) (co : Int32) (on : Int32) (ol : Nat) (of : Nat → Int32) (an' : Int32) (mt' : Int32) (co' : Int32) (tf' : Nat → Int32) (on' : Int32) (of' : Nat → Int32) (h : zf_P_run_E pn pl pf qn ql qf tf ol of = some (an', mt', co', tf', on', of')) : CoV l zy_P_run zw_P_run { frames := 5, cells := 0, slots := 0, locals := 117 } D cB cI cJ [.ref ka, .ref wa] [(pa, .inr (4, [.ref pb, .int pn])), (pb, .inl (cB, pl, .inl pf)), (qa, .inr (4, [.ref qb, .int qn])), (qb, .inl (cB, ql, .inl qf)), (ha, .inr (2, [.ref pa, .ref qa])), (ka, .inr (3, [.ref pa, .ref qa, .ref ha, .ref ta, .int an, .int mt, .int co])), (ta, .inl (cI, 32, .inl tf)), (oa, .inr (4, [.ref ob, .int on])), (ob, .inl (cB, ol, .inl of)), (wa, .inr (1, [.ref qa, .ref oa]))] [(pa, .inr (4, [.ref pb, .int pn])), (pb, .inl (cB, pl, .inl pf)), (qa, .inr (4, [.ref qb, .int qn])), (qb, .inl (cB, ql, .inl qf)), (ha, .inr (2, [.ref pa, .ref qa])), (ka, .inr (3, [.ref pa, .ref qa, .ref ha, .ref ta, .int an', .int mt', .int co'])), (ta, .inl (cI, 32, .inl tf')), (oa, .inr (4, [.ref ob, .int on'])), (ob, .inl (cB, ol, .inl of')), (wa, .inr (1, [.ref qa, .ref oa]))] := by
  unfold zf_P_run_E at h
  refine CoV.ofG (cc := zc_P_run) (maxL := 3) (own := RX3) (by decide) rfl rfl rfl trivial (Nat.le_of_ble_eq_true rfl) (L0 := [(0, .ref ka), (1, .ref wa)]) rfl (fun k F E => ?_)
  refine G_aload_n F zd_P_run_0 rfl (j := 0) rfl ?_
  refine G_iconst (v := (0 : Int32)) F zd_P_run_1 (by decide) ?_
  refine G_put F fp_P_29_P (q := 5) zd_P_run_2 rfl (Nat.le_of_ble_eq_true rfl) (ws' := [(pa, .inr (4, [.ref pb, .int pn])), (pb, .inl (cB, pl, .inl pf)), (qa, .inr (4, [.ref qb, .int qn])), (qb, .inl (cB, ql, .inl qf)), (ha, .inr (2, [.ref pa, .ref qa])), (ka, .inr (3, [.ref pa, .ref qa, .ref ha, .ref ta, .int (0 : Int32), .int mt, .int co])), (ta, .inl (cI, 32, .inl tf)), (oa, .inr (4, [.ref ob, .int on])), (ob, .inl (cB, ol, .inl of)), (wa, .inr (1, [.ref qa, .ref oa]))]) rfl ?_
  refine G_aload_n F zd_P_run_5 rfl (j := 0) rfl ?_
  refine G_iconst (v := (0 : Int32)) F zd_P_run_6 (by decide) ?_
  refine G_put F fp_P_33_P (q := 5) zd_P_run_7 rfl (Nat.le_of_ble_eq_true rfl) (ws' := [(pa, .inr (4, [.ref pb, .int pn])), (pb, .inl (cB, pl, .inl pf)), (qa, .inr (4, [.ref qb, .int qn])), (qb, .inl (cB, ql, .inl qf)), (ha, .inr (2, [.ref pa, .ref qa])), (ka, .inr (3, [.ref pa, .ref qa, .ref ha, .ref ta, .int (0 : Int32), .int (0 : Int32), .int co])), (ta, .inl (cI, 32, .inl tf)), (oa, .inr (4, [.ref ob, .int on])), (ob, .inl (cB, ol, .inl of)), (wa, .inr (1, [.ref qa, .ref oa]))]) rfl ?_
  refine G_aload_n F zd_P_run_10 rfl (j := 0) rfl ?_
  refine G_iconst (v := (0 : Int32)) F zd_P_run_11 (by decide) ?_
  refine G_put F fp_P_36_P (q := 5) zd_P_run_12 rfl (Nat.le_of_ble_eq_true rfl) (ws' := [(pa, .inr (4, [.ref pb, .int pn])), (pb, .inl (cB, pl, .inl pf)), (qa, .inr (4, [.ref qb, .int qn])), (qb, .inl (cB, ql, .inl qf)), (ha, .inr (2, [.ref pa, .ref qa])), (ka, .inr (3, [.ref pa, .ref qa, .ref ha, .ref ta, .int (0 : Int32), .int (0 : Int32), .int (0 : Int32)])), (ta, .inl (cI, 32, .inl tf)), (oa, .inr (4, [.ref ob, .int on])), (ob, .inl (cB, ol, .inl of)), (wa, .inr (1, [.ref qa, .ref oa]))]) rfl ?_
  refine G_aload_n F zd_P_run_15 rfl (j := 0) rfl ?_
  obtain ⟨v1, hc16, h⟩ := bc1_s h
  refine G_callvV F (zk_P_learnPast l D cB cI cJ pa pb qa qb ka ha ta pn pl pf qn ql qf tf (0 : Int32) (0 : Int32) (0 : Int32) v1 hc16) (rest := []) [0, 1, 2, 3, 4, 5, 6] rfl rfl rfl (ws' := [(pa, .inr (4, [.ref pb, .int pn])), (pb, .inl (cB, pl, .inl pf)), (qa, .inr (4, [.ref qb, .int qn])), (qb, .inl (cB, ql, .inl qf)), (ha, .inr (2, [.ref pa, .ref qa])), (ka, .inr (3, [.ref pa, .ref qa, .ref ha, .ref ta, .int (0 : Int32), .int (0 : Int32), .int (0 : Int32)])), (ta, .inl (cI, 32, .inl v1)), (oa, .inr (4, [.ref ob, .int on])), (ob, .inl (cB, ol, .inl of)), (wa, .inr (1, [.ref qa, .ref oa]))]) rfl (q0 := 5) rfl cv_P_39_P rfl rfl ⟨Nat.le_of_ble_eq_true rfl, Nat.le_of_ble_eq_true rfl⟩ hf0 rfl (Nat.le_of_ble_eq_true rfl) zd_P_run_16 rfl ?_
  refine G_aload_n F zd_P_run_19 rfl (j := 1) rfl ?_
  obtain ⟨v2, v3, hc20, h⟩ := bc2_s h
  refine G_callvA F (zk_EW_begin l D cB cI cJ qa qb oa ob wa qn ql qf on ol of v2 v3 hc20) (rest := []) [2, 3, 7, 8, 9] rfl rfl rfl (ws' := [(pa, .inr (4, [.ref pb, .int pn])), (pb, .inl (cB, pl, .inl pf)), (qa, .inr (4, [.ref qb, .int qn])), (qb, .inl (cB, ql, .inl qf)), (ha, .inr (2, [.ref pa, .ref qa])), (ka, .inr (3, [.ref pa, .ref qa, .ref ha, .ref ta, .int (0 : Int32), .int (0 : Int32), .int (0 : Int32)])), (ta, .inl (cI, 32, .inl v1)), (oa, .inr (4, [.ref ob, .int v2])), (ob, .inl (cB, ol, .inl v3)), (wa, .inr (1, [.ref qa, .ref oa]))]) rfl (q0 := 9) rfl (x := ⟨"PressSuite$Writer", "begin", "()V"⟩) cv_P_42_EW rfl rfl ⟨Nat.le_of_ble_eq_true rfl, Nat.le_of_ble_eq_true rfl⟩ hf0 rfl (Nat.le_of_ble_eq_true rfl) zd_P_run_20 rfl ?_
  refine G_iconst (v := (0 : Int32)) F zd_P_run_23 (by decide) ?_
  refine G_istore_n F zd_P_run_24 rfl (by decide) (L' := [(2, .int (0 : Int32)), (0, .ref ka), (1, .ref wa)]) rfl ?_
  obtain ⟨x20, x21, x22, x23, x24, x25, x26, hl25, h⟩ := bc7_s h
  refine G_lv [1, 2, 0] rfl (zl_P_run_E_25 F pn pl pf qn ql qf ol pa pb qa qb ka ha ta oa ob wa 1000 (0 : Int32) (0 : Int32) (0 : Int32) (0 : Int32) v1 v2 v3 x20 x21 x22 x23 x24 x25 x26 hl25 ?_)
  refine G_aload_n F zd_P_run_55 rfl (j := 1) rfl ?_
  refine G_aload_n F zd_P_run_56 rfl (j := 0) rfl ?_
  refine G_get F fa_P_29_P (q := 5) zd_P_run_57 rfl rfl ?_
  obtain ⟨v27, v28, hc60, h⟩ := bc2_s h
  refine G_callvA F (zk_EW_end l D cB cI cJ qa qb oa ob wa qn ql qf x25 ol x26 x21 v27 v28 hc60) (rest := []) [2, 3, 7, 8, 9] rfl rfl rfl (ws' := [(pa, .inr (4, [.ref pb, .int pn])), (pb, .inl (cB, pl, .inl pf)), (qa, .inr (4, [.ref qb, .int qn])), (qb, .inl (cB, ql, .inl qf)), (ha, .inr (2, [.ref pa, .ref qa])), (ka, .inr (3, [.ref pa, .ref qa, .ref ha, .ref ta, .int x21, .int x22, .int x23])), (ta, .inl (cI, 32, .inl x24)), (oa, .inr (4, [.ref ob, .int v27])), (ob, .inl (cB, ol, .inl v28)), (wa, .inr (1, [.ref qa, .ref oa]))]) rfl (q0 := 9) rfl (x := ⟨"PressSuite$Writer", "end", "(I)V"⟩) cv_P_62_EW rfl rfl ⟨Nat.le_of_ble_eq_true rfl, Nat.le_of_ble_eq_true rfl⟩ hf0 rfl (Nat.le_of_ble_eq_true rfl) zd_P_run_60 rfl ?_
  obtain ⟨q1, q2, q3, q4, q5, q6⟩ := inj6 h
  subst q1
  subst q2
  subst q3
  subst q4
  subst q5
  subst q6
  exact E 63 _ zd_P_run_63

