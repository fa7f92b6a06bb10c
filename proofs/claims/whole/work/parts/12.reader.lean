set_option maxHeartbeats 4000000 in
set_option maxRecDepth 100000 in
theorem zk_D_refuseIf_S (l : Launch) (D : va_G) (cB cI cJ : ClassId) (sa : Nat) (sb : Nat) (da : Nat) (db : Nat) (pa : Nat) (pb : Nat) (ha : Nat) (ea : Nat) (sn : Int32) (sl : Nat) (sf : Nat → Int32) (dn : Int32) (dl : Nat) (df : Nat → Int32) (pn : Int32) (pl : Nat) (pf : Nat → Int32) (ra : Int32) (rr : Int32) (i1 : Int32) (i2 : Int32) (rr' : Int32) (h : zf_D_refuseIf rr i1 i2 = some rr') : CoV l zy_D_refuseIf zw_D_refuseIf { frames := 0, cells := 0, slots := 0, locals := 0 } D cB cI cJ [.ref ea, .int i1, .int i2] [(sa, .inr (4, [.ref sb, .int sn])), (sb, .inl (cB, sl, .inl sf)), (da, .inr (4, [.ref db, .int dn])), (db, .inl (cB, dl, .inl df)), (pa, .inr (4, [.ref pb, .int pn])), (pb, .inl (cB, pl, .inl pf)), (ha, .inr (2, [.ref pa, .ref da])), (ea, .inr (5, [.ref sa, .ref da, .ref ha, .int ra, .int rr]))] [(sa, .inr (4, [.ref sb, .int sn])), (sb, .inl (cB, sl, .inl sf)), (da, .inr (4, [.ref db, .int dn])), (db, .inl (cB, dl, .inl df)), (pa, .inr (4, [.ref pb, .int pn])), (pb, .inl (cB, pl, .inl pf)), (ha, .inr (2, [.ref pa, .ref da])), (ea, .inr (5, [.ref sa, .ref da, .ref ha, .int ra, .int rr']))] := by
  unfold zf_D_refuseIf at h
  refine CoV.ofG (cc := zc_D_refuseIf) (maxL := 3) (own := RX4) (by decide) rfl rfl rfl trivial (Nat.le_of_ble_eq_true rfl) (L0 := [(0, .ref ea), (1, .int i1), (2, .int i2)]) rfl (fun k F E => ?_)
  refine G_iload_n F zd_D_refuseIf_0 rfl (j := 1) rfl ?_
  refine G_if_eq F zd_D_refuseIf_1 (tgt := 17) rfl (fun h0 => ?_) (fun h0 => ?_)
  · have h := iP h h0
    have q1 := Option.some.inj h
    subst q1
    exact E 17 _ zd_D_refuseIf_17
  · have h := iN h h0
    refine G_aload_n F zd_D_refuseIf_4 rfl (j := 0) rfl ?_
    refine G_get F fa_D_29_SR (q := 7) zd_D_refuseIf_5 rfl rfl ?_
    refine G_iconst (v := (-1 : Int32)) F zd_D_refuseIf_8 (by decide) ?_
    refine G_icmp_ne F zd_D_refuseIf_9 (tgt := 17) rfl (fun h0 => ?_) (fun h0 => ?_)
    · have h := iN h h0
      have q1 := Option.some.inj h
      subst q1
      exact E 17 _ zd_D_refuseIf_17
    · have h := iP h h0
      refine G_aload_n F zd_D_refuseIf_12 rfl (j := 0) rfl ?_
      refine G_iload_n F zd_D_refuseIf_13 rfl (j := 2) rfl ?_
      refine G_put F fp_D_29_SR (q := 7) zd_D_refuseIf_14 rfl (Nat.le_of_ble_eq_true rfl) (ws' := [(sa, .inr (4, [.ref sb, .int sn])), (sb, .inl (cB, sl, .inl sf)), (da, .inr (4, [.ref db, .int dn])), (db, .inl (cB, dl, .inl df)), (pa, .inr (4, [.ref pb, .int pn])), (pb, .inl (cB, pl, .inl pf)), (ha, .inr (2, [.ref pa, .ref da])), (ea, .inr (5, [.ref sa, .ref da, .ref ha, .int ra, .int i2]))]) rfl ?_
      have q1 := Option.some.inj h
      subst q1
      exact E 17 _ zd_D_refuseIf_17

set_option maxHeartbeats 4000000 in
set_option maxRecDepth 100000 in
theorem zk_D_take_S (l : Launch) (D : va_G) (cB cI cJ : ClassId) (sa : Nat) (sb : Nat) (da : Nat) (db : Nat) (pa : Nat) (pb : Nat) (ha : Nat) (ea : Nat) (sn : Int32) (sl : Nat) (sf : Nat → Int32) (dn : Int32) (dl : Nat) (df : Nat → Int32) (pn : Int32) (pl : Nat) (pf : Nat → Int32) (ra : Int32) (rr : Int32) (r : Int32) (ra' : Int32) (rr' : Int32) (h : zf_D_take sn sl sf ra rr = some (r, ra', rr')) : CoI l zy_D_take zw_D_take { frames := 1, cells := 0, slots := 0, locals := 22 } D cB cI cJ [.ref ea] [(sa, .inr (4, [.ref sb, .int sn])), (sb, .inl (cB, sl, .inl sf)), (da, .inr (4, [.ref db, .int dn])), (db, .inl (cB, dl, .inl df)), (pa, .inr (4, [.ref pb, .int pn])), (pb, .inl (cB, pl, .inl pf)), (ha, .inr (2, [.ref pa, .ref da])), (ea, .inr (5, [.ref sa, .ref da, .ref ha, .int ra, .int rr]))] r [(sa, .inr (4, [.ref sb, .int sn])), (sb, .inl (cB, sl, .inl sf)), (da, .inr (4, [.ref db, .int dn])), (db, .inl (cB, dl, .inl df)), (pa, .inr (4, [.ref pb, .int pn])), (pb, .inl (cB, pl, .inl pf)), (ha, .inr (2, [.ref pa, .ref da])), (ea, .inr (5, [.ref sa, .ref da, .ref ha, .int ra', .int rr']))] := by
  unfold zf_D_take at h
  refine CoI.ofG (cc := zc_D_take) (maxL := 2) (own := RX4) (by decide) rfl rfl rfl trivial (Nat.le_of_ble_eq_true rfl) (L0 := [(0, .ref ea)]) rfl (fun k F E => ?_)
  refine G_aload_n F zd_D_take_0 rfl (j := 0) rfl ?_
  refine G_aload_n F zd_D_take_1 rfl (j := 0) rfl ?_
  refine G_get F fa_D_25_SR (q := 7) zd_D_take_2 rfl rfl ?_
  refine G_aload_n F zd_D_take_5 rfl (j := 0) rfl ?_
  refine G_get F fa_D_7_SR (q := 7) zd_D_take_6 rfl rfl ?_
  refine G_get F fa_D_37_R (q := 0) zd_D_take_9 rfl rfl ?_
  obtain ⟨u1, hj20, h⟩ := bc1_s h
  have X20 : G D 2 k 0 0 20 [(0, .ref ea)] [.int u1, .ref ea] [(sa, .inr (4, [.ref sb, .int sn])), (sb, .inl (cB, sl, .inl sf)), (da, .inr (4, [.ref db, .int dn])), (db, .inl (cB, dl, .inl df)), (pa, .inr (4, [.ref pb, .int pn])), (pb, .inl (cB, pl, .inl pf)), (ha, .inr (2, [.ref pa, .ref da])), (ea, .inr (5, [.ref sa, .ref da, .ref ha, .int ra, .int rr]))] := by
    refine G_aload_n F zd_D_take_20 rfl (j := 0) rfl ?_
    refine G_get F fa_D_7_SR (q := 7) zd_D_take_21 rfl rfl ?_
    refine G_get F fa_D_37_R (q := 0) zd_D_take_24 rfl rfl ?_
    obtain ⟨v2, hc27, h⟩ := bc1_s h
    refine G_callvU F (zk_D_refuseIf_S l D cB cI cJ sa sb da db pa pb ha ea sn sl sf dn dl df pn pl pf ra rr u1 sn v2 hc27) (rest := []) [0, 1, 2, 3, 4, 5, 6, 7] rfl rfl rfl (ws' := [(sa, .inr (4, [.ref sb, .int sn])), (sb, .inl (cB, sl, .inl sf)), (da, .inr (4, [.ref db, .int dn])), (db, .inl (cB, dl, .inl df)), (pa, .inr (4, [.ref pb, .int pn])), (pb, .inl (cB, pl, .inl pf)), (ha, .inr (2, [.ref pa, .ref da])), (ea, .inr (5, [.ref sa, .ref da, .ref ha, .int ra, .int v2]))]) rfl (q0 := 7) rfl (x := ⟨"PressSuite$Reader", "refuseIf", "(ZI)V"⟩) cv_D_40_SR rfl rfl ⟨Nat.le_of_ble_eq_true rfl, Nat.le_of_ble_eq_true rfl⟩ hf0 rfl (Nat.le_of_ble_eq_true rfl) zd_D_take_27 rfl ?_
    refine G_aload_n F zd_D_take_30 rfl (j := 0) rfl ?_
    refine G_get F fa_D_29_SR (q := 7) zd_D_take_31 rfl rfl ?_
    refine G_iconst (v := (-1 : Int32)) F zd_D_take_34 (by decide) ?_
    refine G_icmp_eq F zd_D_take_35 (tgt := 40) rfl (fun h0 => ?_) (fun h0 => ?_)
    · have h := iP h h0
      refine G_aload_n F zd_D_take_40 rfl (j := 0) rfl ?_
      refine G_get F fa_D_7_SR (q := 7) zd_D_take_41 rfl rfl ?_
      refine G_aload_n F zd_D_take_44 rfl (j := 0) rfl ?_
      refine G_get F fa_D_25_SR (q := 7) zd_D_take_45 rfl rfl ?_
      obtain ⟨v3, hc48, h⟩ := bc1_s h
      refine G_calliV0 F (zk_R_byteAt l D cB cI cJ sa sb sn sl sf ra v3 hc48) (rest := []) [0, 1] rfl rfl (q0 := 0) rfl cv_D_44_R rfl rfl ⟨Nat.le_of_ble_eq_true rfl, Nat.le_of_ble_eq_true rfl⟩ hf0 rfl (Nat.le_of_ble_eq_true rfl) zd_D_take_48 rfl ?_
      refine G_istore_n F zd_D_take_51 rfl (by decide) (L' := [(1, .int v3), (0, .ref ea)]) rfl ?_
      refine G_aload_n F zd_D_take_52 rfl (j := 1) rfl ?_
      refine G_dup F zd_D_take_53 rfl ?_
      refine G_get F fa_D_25_SR (q := 7) zd_D_take_54 rfl rfl ?_
      refine G_iconst (v := (1 : Int32)) F zd_D_take_57 (by decide) ?_
      refine G_iadd F zd_D_take_58 ?_
      obtain ⟨v4, ev4, h⟩ := bnd_s h
      refine G_topi ev4 ?_
      refine G_put F fp_D_25_SR (q := 7) zd_D_take_59 rfl (Nat.le_of_ble_eq_true rfl) (ws' := [(sa, .inr (4, [.ref sb, .int sn])), (sb, .inl (cB, sl, .inl sf)), (da, .inr (4, [.ref db, .int dn])), (db, .inl (cB, dl, .inl df)), (pa, .inr (4, [.ref pb, .int pn])), (pb, .inl (cB, pl, .inl pf)), (ha, .inr (2, [.ref pa, .ref da])), (ea, .inr (5, [.ref sa, .ref da, .ref ha, .int v4, .int v2]))]) rfl ?_
      refine G_iload_n F zd_D_take_62 rfl (j := 0) rfl ?_
      obtain ⟨q1, q2, q3⟩ := inj3 h
      subst q1
      subst q2
      subst q3
      exact E 63 _ zd_D_take_63
    · have h := iN h h0
      refine G_iconst (v := (0 : Int32)) F zd_D_take_38 (by decide) ?_
      obtain ⟨q1, q2, q3⟩ := inj3 h
      subst q1
      subst q2
      subst q3
      exact E 39 _ zd_D_take_39
  have h := hj20
  refine G_icmp_lt F zd_D_take_12 (tgt := 19) rfl (fun h0 => ?_) (fun h0 => ?_)
  · have h := iP h h0
    refine G_iconst (v := (0 : Int32)) F zd_D_take_19 (by decide) ?_
    have q1 := Option.some.inj h
    subst q1
    exact G_lv [0] rfl X20
  · have h := iN h h0
    refine G_iconst (v := (1 : Int32)) F zd_D_take_15 (by decide) ?_
    refine G_goto F zd_D_take_16 (tgt := 20) rfl ?_
    have q1 := Option.some.inj h
    subst q1
    exact G_lv [0] rfl X20

set_option maxHeartbeats 4000000 in
set_option maxRecDepth 100000 in
theorem zl_SR_takeSum_19 {k : GC} {l : Launch} {D : va_G} {cB cI cJ : ClassId} (F : GF k l { frames := 2, cells := 0, slots := 0, locals := 43 } zc_SR_takeSum 5 RX6 D cB cI cJ) (sn : Int32) (sl : Nat) (sf : Nat → Int32) (dn : Int32) (dl : Nat) (df : Nat → Int32) (pn : Int32) (pl : Nat) (pf : Nat → Int32) (i1 : Int32) (sa : Nat) (sb : Nat) (da : Nat) (db : Nat) (pa : Nat) (pb : Nat) (ha : Nat) (ea : Nat) : ∀ (n : Nat) (v2 : Int32) (v3 : Int32) (v4 : Int32) (v5 : Int32) (v6 : Int32) (w2 : Int32) (w3 : Int32) (w4 : Int32) (w5 : Int32) (w6 : Int32), zf_SR_takeSum_L19 sn sl sf n v2 v3 v4 v5 v6 = some (w2, w3, w4, w5, w6) → G D 5 k 0 0 53 [(0, .ref ea), (1, .int i1), (2, .int w2), (3, .int w3), (4, .int w4)] [] [(sa, .inr (4, [.ref sb, .int sn])), (sb, .inl (cB, sl, .inl sf)), (da, .inr (4, [.ref db, .int dn])), (db, .inl (cB, dl, .inl df)), (pa, .inr (4, [.ref pb, .int pn])), (pb, .inl (cB, pl, .inl pf)), (ha, .inr (2, [.ref pa, .ref da])), (ea, .inr (5, [.ref sa, .ref da, .ref ha, .int w5, .int w6]))] → G D 5 k 0 0 19 [(0, .ref ea), (1, .int i1), (2, .int v2), (3, .int v3), (4, .int v4)] [] [(sa, .inr (4, [.ref sb, .int sn])), (sb, .inl (cB, sl, .inl sf)), (da, .inr (4, [.ref db, .int dn])), (db, .inl (cB, dl, .inl df)), (pa, .inr (4, [.ref pb, .int pn])), (pb, .inl (cB, pl, .inl pf)), (ha, .inr (2, [.ref pa, .ref da])), (ea, .inr (5, [.ref sa, .ref da, .ref ha, .int v5, .int v6]))] := by
  intro n
  induction n with
  | zero =>
    intro v2 v3 v4 v5 v6 w2 w3 w4 w5 w6 h
    rw [zf_SR_takeSum_L19_0] at h
    cases h
  | succ n ih =>
    intro v2 v3 v4 v5 v6 w2 w3 w4 w5 w6 h hx
    have h := (zf_SR_takeSum_L19_s sn sl sf n v2 v3 v4 v5 v6).symm.trans h
    refine G_iload F zd_SR_takeSum_19 (j := 4) rfl ?_
    refine G_aload_n F zd_SR_takeSum_21 rfl (j := 0) rfl ?_
    refine G_get F fa_SR_9_SR (q := 7) zd_SR_takeSum_22 rfl rfl ?_
    refine G_get F fa_SR_15_R (q := 0) zd_SR_takeSum_25 rfl rfl ?_
    refine G_icmp_gt F zd_SR_takeSum_28 (tgt := 53) rfl (fun h0 => ?_) (fun h0 => ?_)
    · have h := iP h h0
      obtain ⟨q1, q2, q3, q4, q5⟩ := inj5 h
      subst q1
      subst q2
      subst q3
      subst q4
      subst q5
      exact G_lv [0, 1, 2, 3, 4] rfl hx
    · have h := iN h h0
      refine G_iload_n F zd_SR_takeSum_31 rfl (j := 3) rfl ?_
      refine G_sipush (v := (255 : Int32)) F zd_SR_takeSum_32 (by decide) ?_
      refine G_icmp_ne F zd_SR_takeSum_35 (tgt := 53) rfl (fun h0 => ?_) (fun h0 => ?_)
      · have h := iN h h0
        obtain ⟨q1, q2, q3, q4, q5⟩ := inj5 h
        subst q1
        subst q2
        subst q3
        subst q4
        subst q5
        exact G_lv [0, 1, 2, 3, 4] rfl hx
      · have h := iP h h0
        refine G_aload_n F zd_SR_takeSum_38 rfl (j := 0) rfl ?_
        obtain ⟨v7, v8, v9, hc39, h⟩ := bc3_s h
        refine G_calliU F (zk_D_take_S l D cB cI cJ sa sb da db pa pb ha ea sn sl sf dn dl df pn pl pf v5 v6 v7 v8 v9 hc39) (rest := []) [0, 1, 2, 3, 4, 5, 6, 7] rfl rfl rfl (ws' := [(sa, .inr (4, [.ref sb, .int sn])), (sb, .inl (cB, sl, .inl sf)), (da, .inr (4, [.ref db, .int dn])), (db, .inl (cB, dl, .inl df)), (pa, .inr (4, [.ref pb, .int pn])), (pb, .inl (cB, pl, .inl pf)), (ha, .inr (2, [.ref pa, .ref da])), (ea, .inr (5, [.ref sa, .ref da, .ref ha, .int v8, .int v9]))]) rfl (q0 := 7) rfl (x := ⟨"PressSuite$SequenceReader", "take", "()I"⟩) cv_SR_28_SR rfl rfl ⟨Nat.le_of_ble_eq_true rfl, Nat.le_of_ble_eq_true rfl⟩ hf0 rfl (Nat.le_of_ble_eq_true rfl) zd_SR_takeSum_39 rfl ?_
        refine G_istore_n F zd_SR_takeSum_42 rfl (by decide) (L' := [(3, .int v7), (0, .ref ea), (1, .int i1), (2, .int v2), (4, .int v4)]) rfl ?_
        refine G_iload_n F zd_SR_takeSum_43 rfl (j := 3) rfl ?_
        refine G_iload_n F zd_SR_takeSum_44 rfl (j := 0) rfl ?_
        refine G_iadd F zd_SR_takeSum_45 ?_
        obtain ⟨v10, ev10, h⟩ := bnd_s h
        refine G_topi ev10 ?_
        refine G_istore_n F zd_SR_takeSum_46 rfl (by decide) (L' := [(2, .int v10), (3, .int v7), (0, .ref ea), (1, .int i1), (4, .int v4)]) rfl ?_
        obtain ⟨v11, ev11, h⟩ := bnd_s h
        refine G_iinc F zd_SR_takeSum_47 (j := 4) rfl (w := (1 : Int32)) (by decide) ev11 (by decide) (L' := [(4, .int v11), (2, .int v10), (3, .int v7), (0, .ref ea), (1, .int i1)]) rfl ?_
        refine G_goto F zd_SR_takeSum_50 (tgt := 19) rfl ?_
        exact G_lv [3, 4, 1, 2, 0] rfl (ih _ _ _ _ _ _ _ _ _ _ h hx)
set_option maxHeartbeats 4000000 in
set_option maxRecDepth 100000 in
theorem zk_SR_takeSum (l : Launch) (D : va_G) (cB cI cJ : ClassId) (sa : Nat) (sb : Nat) (da : Nat) (db : Nat) (pa : Nat) (pb : Nat) (ha : Nat) (ea : Nat) (sn : Int32) (sl : Nat) (sf : Nat → Int32) (dn : Int32) (dl : Nat) (df : Nat → Int32) (pn : Int32) (pl : Nat) (pf : Nat → Int32) (ra : Int32) (rr : Int32) (i1 : Int32) (r : Int32) (ra' : Int32) (rr' : Int32) (h : zf_SR_takeSum sn sl sf ra rr i1 = some (r, ra', rr')) : CoI l zy_SR_takeSum zw_SR_takeSum { frames := 2, cells := 0, slots := 0, locals := 43 } D cB cI cJ [.ref ea, .int i1] [(sa, .inr (4, [.ref sb, .int sn])), (sb, .inl (cB, sl, .inl sf)), (da, .inr (4, [.ref db, .int dn])), (db, .inl (cB, dl, .inl df)), (pa, .inr (4, [.ref pb, .int pn])), (pb, .inl (cB, pl, .inl pf)), (ha, .inr (2, [.ref pa, .ref da])), (ea, .inr (5, [.ref sa, .ref da, .ref ha, .int ra, .int rr]))] r [(sa, .inr (4, [.ref sb, .int sn])), (sb, .inl (cB, sl, .inl sf)), (da, .inr (4, [.ref db, .int dn])), (db, .inl (cB, dl, .inl df)), (pa, .inr (4, [.ref pb, .int pn])), (pb, .inl (cB, pl, .inl pf)), (ha, .inr (2, [.ref pa, .ref da])), (ea, .inr (5, [.ref sa, .ref da, .ref ha, .int ra', .int rr']))] := by
  unfold zf_SR_takeSum at h
  refine CoI.ofG (cc := zc_SR_takeSum) (maxL := 5) (own := RX6) (by decide) rfl rfl rfl trivial (Nat.le_of_ble_eq_true rfl) (L0 := [(0, .ref ea), (1, .int i1)]) rfl (fun k F E => ?_)
  refine G_iload_n F zd_SR_takeSum_0 rfl (j := 1) rfl ?_
  refine G_istore_n F zd_SR_takeSum_1 rfl (by decide) (L' := [(2, .int i1), (0, .ref ea), (1, .int i1)]) rfl ?_
  refine G_iload_n F zd_SR_takeSum_2 rfl (j := 2) rfl ?_
  refine G_bipush (v := (15 : Int32)) F zd_SR_takeSum_3 (by decide) ?_
  obtain ⟨u1, hj15, h⟩ := bc1_s h
  have X15 : G D 5 k 0 0 15 [(0, .ref ea), (1, .int i1), (2, .int i1)] [.int u1] [(sa, .inr (4, [.ref sb, .int sn])), (sb, .inl (cB, sl, .inl sf)), (da, .inr (4, [.ref db, .int dn])), (db, .inl (cB, dl, .inl df)), (pa, .inr (4, [.ref pb, .int pn])), (pb, .inl (cB, pl, .inl pf)), (ha, .inr (2, [.ref pa, .ref da])), (ea, .inr (5, [.ref sa, .ref da, .ref ha, .int ra, .int rr]))] := by
    refine G_istore_n F zd_SR_takeSum_15 rfl (by decide) (L' := [(3, .int u1), (0, .ref ea), (1, .int i1), (2, .int i1)]) rfl ?_
    refine G_iconst (v := (0 : Int32)) F zd_SR_takeSum_16 (by decide) ?_
    refine G_istore F zd_SR_takeSum_17 (by decide) (L' := [(4, .int (0 : Int32)), (3, .int u1), (0, .ref ea), (1, .int i1), (2, .int i1)]) rfl ?_
    obtain ⟨x12, x13, x14, x15, x16, hl19, h⟩ := bc5_s h
    refine G_lv [2, 3, 4, 1, 0] rfl (zl_SR_takeSum_19 F sn sl sf dn dl df pn pl pf i1 sa sb da db pa pb ha ea 1000 i1 u1 (0 : Int32) ra rr x12 x13 x14 x15 x16 hl19 ?_)
    refine G_iload_n F zd_SR_takeSum_53 rfl (j := 2) rfl ?_
    obtain ⟨q1, q2, q3⟩ := inj3 h
    subst q1
    subst q2
    subst q3
    exact E 54 _ zd_SR_takeSum_54
  have h := hj15
  refine G_icmp_ne F zd_SR_takeSum_5 (tgt := 14) rfl (fun h0 => ?_) (fun h0 => ?_)
  · have h := iN h h0
    refine G_iconst (v := (0 : Int32)) F zd_SR_takeSum_14 (by decide) ?_
    have q1 := Option.some.inj h
    subst q1
    exact G_lv [1, 2, 0] rfl X15
  · have h := iP h h0
    refine G_sipush (v := (255 : Int32)) F zd_SR_takeSum_8 (by decide) ?_
    refine G_goto F zd_SR_takeSum_11 (tgt := 15) rfl ?_
    have q1 := Option.some.inj h
    subst q1
    exact G_lv [1, 2, 0] rfl X15

set_option maxHeartbeats 4000000 in
set_option maxRecDepth 100000 in
theorem zk_D_requireRoom_S (l : Launch) (D : va_G) (cB cI cJ : ClassId) (sa : Nat) (sb : Nat) (da : Nat) (db : Nat) (pa : Nat) (pb : Nat) (ha : Nat) (ea : Nat) (sn : Int32) (sl : Nat) (sf : Nat → Int32) (dn : Int32) (dl : Nat) (df : Nat → Int32) (pn : Int32) (pl : Nat) (pf : Nat → Int32) (ra : Int32) (rr : Int32) (i1 : Int32) (i2 : Int32) (i3 : Int32) (rr' : Int32) (h : zf_D_requireRoom dn rr i1 i2 i3 = some rr') : CoV l zy_D_requireRoom zw_D_requireRoom { frames := 1, cells := 0, slots := 0, locals := 22 } D cB cI cJ [.ref ea, .int i1, .int i2, .int i3] [(sa, .inr (4, [.ref sb, .int sn])), (sb, .inl (cB, sl, .inl sf)), (da, .inr (4, [.ref db, .int dn])), (db, .inl (cB, dl, .inl df)), (pa, .inr (4, [.ref pb, .int pn])), (pb, .inl (cB, pl, .inl pf)), (ha, .inr (2, [.ref pa, .ref da])), (ea, .inr (5, [.ref sa, .ref da, .ref ha, .int ra, .int rr]))] [(sa, .inr (4, [.ref sb, .int sn])), (sb, .inl (cB, sl, .inl sf)), (da, .inr (4, [.ref db, .int dn])), (db, .inl (cB, dl, .inl df)), (pa, .inr (4, [.ref pb, .int pn])), (pb, .inl (cB, pl, .inl pf)), (ha, .inr (2, [.ref pa, .ref da])), (ea, .inr (5, [.ref sa, .ref da, .ref ha, .int ra, .int rr']))] := by
  unfold zf_D_requireRoom at h
  refine CoV.ofG (cc := zc_D_requireRoom) (maxL := 4) (own := RX4) (by decide) rfl rfl rfl trivial (Nat.le_of_ble_eq_true rfl) (L0 := [(0, .ref ea), (1, .int i1), (2, .int i2), (3, .int i3)]) rfl (fun k F E => ?_)
  refine G_aload_n F zd_D_requireRoom_0 rfl (j := 0) rfl ?_
  refine G_aload_n F zd_D_requireRoom_1 rfl (j := 0) rfl ?_
  refine G_get F fa_D_13_SR (q := 7) zd_D_requireRoom_2 rfl rfl ?_
  refine G_get F fa_D_37_R (q := 2) zd_D_requireRoom_5 rfl rfl ?_
  refine G_iload_n F zd_D_requireRoom_8 rfl (j := 1) rfl ?_
  refine G_iadd F zd_D_requireRoom_9 ?_
  refine G_iload_n F zd_D_requireRoom_10 rfl (j := 2) rfl ?_
  obtain ⟨u1, hj19, h⟩ := bc1_s h
  have X19 : G D 4 k 0 0 19 [(0, .ref ea), (1, .int i1), (2, .int i2), (3, .int i3)] [.int u1, .ref ea] [(sa, .inr (4, [.ref sb, .int sn])), (sb, .inl (cB, sl, .inl sf)), (da, .inr (4, [.ref db, .int dn])), (db, .inl (cB, dl, .inl df)), (pa, .inr (4, [.ref pb, .int pn])), (pb, .inl (cB, pl, .inl pf)), (ha, .inr (2, [.ref pa, .ref da])), (ea, .inr (5, [.ref sa, .ref da, .ref ha, .int ra, .int rr]))] := by
    refine G_iload_n F zd_D_requireRoom_19 rfl (j := 3) rfl ?_
    obtain ⟨v2, hc20, h⟩ := bc1_s h
    refine G_callvU F (zk_D_refuseIf_S l D cB cI cJ sa sb da db pa pb ha ea sn sl sf dn dl df pn pl pf ra rr u1 i3 v2 hc20) (rest := []) [0, 1, 2, 3, 4, 5, 6, 7] rfl rfl rfl (ws' := [(sa, .inr (4, [.ref sb, .int sn])), (sb, .inl (cB, sl, .inl sf)), (da, .inr (4, [.ref db, .int dn])), (db, .inl (cB, dl, .inl df)), (pa, .inr (4, [.ref pb, .int pn])), (pb, .inl (cB, pl, .inl pf)), (ha, .inr (2, [.ref pa, .ref da])), (ea, .inr (5, [.ref sa, .ref da, .ref ha, .int ra, .int v2]))]) rfl (q0 := 7) rfl (x := ⟨"PressSuite$Reader", "refuseIf", "(ZI)V"⟩) cv_D_40_SR rfl rfl ⟨Nat.le_of_ble_eq_true rfl, Nat.le_of_ble_eq_true rfl⟩ hf0 rfl (Nat.le_of_ble_eq_true rfl) zd_D_requireRoom_20 rfl ?_
    have q1 := Option.some.inj h
    subst q1
    exact E 23 _ zd_D_requireRoom_23
  have h := hj19
  refine G_icmp_le F zd_D_requireRoom_11 (tgt := 18) rfl (fun h0 => ?_) (fun h0 => ?_)
  · have h := iP h h0
    refine G_iconst (v := (0 : Int32)) F zd_D_requireRoom_18 (by decide) ?_
    have q1 := Option.some.inj h
    subst q1
    exact G_lv [0, 1, 2, 3] rfl X19
  · have h := iN h h0
    refine G_iconst (v := (1 : Int32)) F zd_D_requireRoom_14 (by decide) ?_
    refine G_goto F zd_D_requireRoom_15 (tgt := 19) rfl ?_
    have q1 := Option.some.inj h
    subst q1
    exact G_lv [0, 1, 2, 3] rfl X19

set_option maxHeartbeats 4000000 in
set_option maxRecDepth 100000 in
theorem zk_D_refused_S (l : Launch) (D : va_G) (cB cI cJ : ClassId) (sa : Nat) (sb : Nat) (da : Nat) (db : Nat) (pa : Nat) (pb : Nat) (ha : Nat) (ea : Nat) (sn : Int32) (sl : Nat) (sf : Nat → Int32) (dn : Int32) (dl : Nat) (df : Nat → Int32) (pn : Int32) (pl : Nat) (pf : Nat → Int32) (ra : Int32) (rr : Int32) (r : Int32) (h : zf_D_refused rr = some r) : CoI l zy_D_refused zw_D_refused { frames := 0, cells := 0, slots := 0, locals := 0 } D cB cI cJ [.ref ea] [(sa, .inr (4, [.ref sb, .int sn])), (sb, .inl (cB, sl, .inl sf)), (da, .inr (4, [.ref db, .int dn])), (db, .inl (cB, dl, .inl df)), (pa, .inr (4, [.ref pb, .int pn])), (pb, .inl (cB, pl, .inl pf)), (ha, .inr (2, [.ref pa, .ref da])), (ea, .inr (5, [.ref sa, .ref da, .ref ha, .int ra, .int rr]))] r [(sa, .inr (4, [.ref sb, .int sn])), (sb, .inl (cB, sl, .inl sf)), (da, .inr (4, [.ref db, .int dn])), (db, .inl (cB, dl, .inl df)), (pa, .inr (4, [.ref pb, .int pn])), (pb, .inl (cB, pl, .inl pf)), (ha, .inr (2, [.ref pa, .ref da])), (ea, .inr (5, [.ref sa, .ref da, .ref ha, .int ra, .int rr]))] := by
  unfold zf_D_refused at h
  refine CoZ.ofG (cc := zc_D_refused) (maxL := 1) (own := RX4) (by decide) rfl rfl rfl trivial (Nat.le_of_ble_eq_true rfl) (L0 := [(0, .ref ea)]) rfl (fun k F E => ?_)
  refine G_aload_n F zd_D_refused_0 rfl (j := 0) rfl ?_
  refine G_get F fa_D_29_SR (q := 7) zd_D_refused_1 rfl rfl ?_
  refine G_iconst (v := (-1 : Int32)) F zd_D_refused_4 (by decide) ?_
  refine G_icmp_eq F zd_D_refused_5 (tgt := 12) rfl (fun h0 => ?_) (fun h0 => ?_)
  · have h := iP h h0
    refine G_iconst (v := (0 : Int32)) F zd_D_refused_12 (by decide) ?_
    have q1 := Option.some.inj h
    subst q1
    exact E 13 _ zd_D_refused_13 (by decide)
  · have h := iN h h0
    refine G_iconst (v := (1 : Int32)) F zd_D_refused_8 (by decide) ?_
    refine G_goto F zd_D_refused_9 (tgt := 13) rfl ?_
    have q1 := Option.some.inj h
    subst q1
    exact E 13 _ zd_D_refused_13 (by decide)

set_option maxHeartbeats 4000000 in
set_option maxRecDepth 100000 in
theorem zl_D_copyLiterals_S_2 {k : GC} {l : Launch} {D : va_G} {cB cI cJ : ClassId} (F : GF k l { frames := 2, cells := 0, slots := 0, locals := 43 } zc_D_copyLiterals 3 RX4 D cB cI cJ) (sn : Int32) (sl : Nat) (sf : Nat → Int32) (dl : Nat) (pn : Int32) (pl : Nat) (pf : Nat → Int32) (i1 : Int32) (sa : Nat) (sb : Nat) (da : Nat) (db : Nat) (pa : Nat) (pb : Nat) (ha : Nat) (ea : Nat) : ∀ (n : Nat) (v1 : Int32) (v2 : Int32) (v3 : Nat → Int32) (v4 : Int32) (v5 : Int32) (w1 : Int32) (w2 : Int32) (w3 : Nat → Int32) (w4 : Int32) (w5 : Int32), zf_D_copyLiterals_L2 sn sl sf dl i1 n v1 v2 v3 v4 v5 = some (w1, w2, w3, w4, w5) → G D 3 k 0 0 31 [(0, .ref ea), (1, .int i1), (2, .int w1)] [] [(sa, .inr (4, [.ref sb, .int sn])), (sb, .inl (cB, sl, .inl sf)), (da, .inr (4, [.ref db, .int w2])), (db, .inl (cB, dl, .inl w3)), (pa, .inr (4, [.ref pb, .int pn])), (pb, .inl (cB, pl, .inl pf)), (ha, .inr (2, [.ref pa, .ref da])), (ea, .inr (5, [.ref sa, .ref da, .ref ha, .int w4, .int w5]))] → G D 3 k 0 0 2 [(0, .ref ea), (1, .int i1), (2, .int v1)] [] [(sa, .inr (4, [.ref sb, .int sn])), (sb, .inl (cB, sl, .inl sf)), (da, .inr (4, [.ref db, .int v2])), (db, .inl (cB, dl, .inl v3)), (pa, .inr (4, [.ref pb, .int pn])), (pb, .inl (cB, pl, .inl pf)), (ha, .inr (2, [.ref pa, .ref da])), (ea, .inr (5, [.ref sa, .ref da, .ref ha, .int v4, .int v5]))] := by
  intro n
  induction n with
  | zero =>
    intro v1 v2 v3 v4 v5 w1 w2 w3 w4 w5 h
    rw [zf_D_copyLiterals_L2_0] at h
    cases h
  | succ n ih =>
    intro v1 v2 v3 v4 v5 w1 w2 w3 w4 w5 h hx
    have h := (zf_D_copyLiterals_L2_s sn sl sf dl i1 n v1 v2 v3 v4 v5).symm.trans h
    refine G_iload_n F zd_D_copyLiterals_2 rfl (j := 2) rfl ?_
    refine G_iload_n F zd_D_copyLiterals_3 rfl (j := 1) rfl ?_
    refine G_icmp_ge F zd_D_copyLiterals_4 (tgt := 31) rfl (fun h0 => ?_) (fun h0 => ?_)
    · have h := iP h h0
      obtain ⟨q1, q2, q3, q4, q5⟩ := inj5 h
      subst q1
      subst q2
      subst q3
      subst q4
      subst q5
      exact G_lv [0, 1, 2] rfl hx
    · have h := iN h h0
      refine G_aload_n F zd_D_copyLiterals_7 rfl (j := 0) rfl ?_
      obtain ⟨v6, hc8, h⟩ := bc1_s h
      refine G_calliU0 F (zk_D_refused_S l D cB cI cJ sa sb da db pa pb ha ea sn sl sf v2 dl v3 pn pl pf v4 v5 v6 hc8) (rest := []) [0, 1, 2, 3, 4, 5, 6, 7] rfl rfl (q0 := 7) rfl (x := ⟨"PressSuite$Reader", "refused", "()Z"⟩) cv_D_55_SR rfl rfl ⟨Nat.le_of_ble_eq_true rfl, Nat.le_of_ble_eq_true rfl⟩ hf0 rfl (Nat.le_of_ble_eq_true rfl) zd_D_copyLiterals_8 rfl ?_
      refine G_if_ne F zd_D_copyLiterals_11 (tgt := 31) rfl (fun h0 => ?_) (fun h0 => ?_)
      · have h := iN h h0
        obtain ⟨q1, q2, q3, q4, q5⟩ := inj5 h
        subst q1
        subst q2
        subst q3
        subst q4
        subst q5
        exact G_lv [0, 1, 2] rfl hx
      · have h := iP h h0
        refine G_aload_n F zd_D_copyLiterals_14 rfl (j := 0) rfl ?_
        refine G_get F fa_D_13_SR (q := 7) zd_D_copyLiterals_15 rfl rfl ?_
        refine G_aload_n F zd_D_copyLiterals_18 rfl (j := 0) rfl ?_
        obtain ⟨v7, v8, v9, hc19, h⟩ := bc3_s h
        refine G_calliU F (zk_D_take_S l D cB cI cJ sa sb da db pa pb ha ea sn sl sf v2 dl v3 pn pl pf v4 v5 v7 v8 v9 hc19) (rest := [.ref da]) [0, 1, 2, 3, 4, 5, 6, 7] rfl rfl rfl (ws' := [(sa, .inr (4, [.ref sb, .int sn])), (sb, .inl (cB, sl, .inl sf)), (da, .inr (4, [.ref db, .int v2])), (db, .inl (cB, dl, .inl v3)), (pa, .inr (4, [.ref pb, .int pn])), (pb, .inl (cB, pl, .inl pf)), (ha, .inr (2, [.ref pa, .ref da])), (ea, .inr (5, [.ref sa, .ref da, .ref ha, .int v8, .int v9]))]) rfl (q0 := 7) rfl (x := ⟨"PressSuite$Reader", "take", "()I"⟩) cv_D_48_SR rfl rfl ⟨Nat.le_of_ble_eq_true rfl, Nat.le_of_ble_eq_true rfl⟩ hf0 rfl (Nat.le_of_ble_eq_true rfl) zd_D_copyLiterals_19 rfl ?_
        obtain ⟨v10, v11, hc22, h⟩ := bc2_s h
        refine G_callvV F (zk_R_add l D cB cI cJ da db v2 dl v3 v7 v10 v11 hc22) (rest := []) [2, 3] rfl rfl rfl (ws' := [(sa, .inr (4, [.ref sb, .int sn])), (sb, .inl (cB, sl, .inl sf)), (da, .inr (4, [.ref db, .int v10])), (db, .inl (cB, dl, .inl v11)), (pa, .inr (4, [.ref pb, .int pn])), (pb, .inl (cB, pl, .inl pf)), (ha, .inr (2, [.ref pa, .ref da])), (ea, .inr (5, [.ref sa, .ref da, .ref ha, .int v8, .int v9]))]) rfl (q0 := 2) rfl cv_D_59_R rfl rfl ⟨Nat.le_of_ble_eq_true rfl, Nat.le_of_ble_eq_true rfl⟩ hf0 rfl (Nat.le_of_ble_eq_true rfl) zd_D_copyLiterals_22 rfl ?_
        obtain ⟨v12, ev12, h⟩ := bnd_s h
        refine G_iinc F zd_D_copyLiterals_25 (j := 2) rfl (w := (1 : Int32)) (by decide) ev12 (by decide) (L' := [(2, .int v12), (0, .ref ea), (1, .int i1)]) rfl ?_
        refine G_goto F zd_D_copyLiterals_28 (tgt := 2) rfl ?_
        exact G_lv [1, 2, 0] rfl (ih _ _ _ _ _ _ _ _ _ _ h hx)
set_option maxHeartbeats 4000000 in
set_option maxRecDepth 100000 in
theorem zk_D_copyLiterals_S (l : Launch) (D : va_G) (cB cI cJ : ClassId) (sa : Nat) (sb : Nat) (da : Nat) (db : Nat) (pa : Nat) (pb : Nat) (ha : Nat) (ea : Nat) (sn : Int32) (sl : Nat) (sf : Nat → Int32) (dn : Int32) (dl : Nat) (df : Nat → Int32) (pn : Int32) (pl : Nat) (pf : Nat → Int32) (ra : Int32) (rr : Int32) (i1 : Int32) (dn' : Int32) (df' : Nat → Int32) (ra' : Int32) (rr' : Int32) (h : zf_D_copyLiterals sn sl sf dn dl df ra rr i1 = some (dn', df', ra', rr')) : CoV l zy_D_copyLiterals zw_D_copyLiterals { frames := 2, cells := 0, slots := 0, locals := 43 } D cB cI cJ [.ref ea, .int i1] [(sa, .inr (4, [.ref sb, .int sn])), (sb, .inl (cB, sl, .inl sf)), (da, .inr (4, [.ref db, .int dn])), (db, .inl (cB, dl, .inl df)), (pa, .inr (4, [.ref pb, .int pn])), (pb, .inl (cB, pl, .inl pf)), (ha, .inr (2, [.ref pa, .ref da])), (ea, .inr (5, [.ref sa, .ref da, .ref ha, .int ra, .int rr]))] [(sa, .inr (4, [.ref sb, .int sn])), (sb, .inl (cB, sl, .inl sf)), (da, .inr (4, [.ref db, .int dn'])), (db, .inl (cB, dl, .inl df')), (pa, .inr (4, [.ref pb, .int pn])), (pb, .inl (cB, pl, .inl pf)), (ha, .inr (2, [.ref pa, .ref da])), (ea, .inr (5, [.ref sa, .ref da, .ref ha, .int ra', .int rr']))] := by
  unfold zf_D_copyLiterals at h
  refine CoV.ofG (cc := zc_D_copyLiterals) (maxL := 3) (own := RX4) (by decide) rfl rfl rfl trivial (Nat.le_of_ble_eq_true rfl) (L0 := [(0, .ref ea), (1, .int i1)]) rfl (fun k F E => ?_)
  refine G_iconst (v := (0 : Int32)) F zd_D_copyLiterals_0 (by decide) ?_
  refine G_istore_n F zd_D_copyLiterals_1 rfl (by decide) (L' := [(2, .int (0 : Int32)), (0, .ref ea), (1, .int i1)]) rfl ?_
  obtain ⟨x13, x14, x15, x16, x17, hl2, h⟩ := bc5_s h
  refine G_lv [1, 2, 0] rfl (zl_D_copyLiterals_S_2 F sn sl sf dl pn pl pf i1 sa sb da db pa pb ha ea 1000 (0 : Int32) dn df ra rr x13 x14 x15 x16 x17 hl2 ?_)
  obtain ⟨q1, q2, q3, q4⟩ := inj4 h
  subst q1
  subst q2
  subst q3
  subst q4
  exact E 31 _ zd_D_copyLiterals_31

set_option maxHeartbeats 4000000 in
set_option maxRecDepth 100000 in
theorem zk_D_atEnd_S (l : Launch) (D : va_G) (cB cI cJ : ClassId) (sa : Nat) (sb : Nat) (da : Nat) (db : Nat) (pa : Nat) (pb : Nat) (ha : Nat) (ea : Nat) (sn : Int32) (sl : Nat) (sf : Nat → Int32) (dn : Int32) (dl : Nat) (df : Nat → Int32) (pn : Int32) (pl : Nat) (pf : Nat → Int32) (ra : Int32) (rr : Int32) (r : Int32) (h : zf_D_atEnd sn ra = some r) : CoI l zy_D_atEnd zw_D_atEnd { frames := 0, cells := 0, slots := 0, locals := 0 } D cB cI cJ [.ref ea] [(sa, .inr (4, [.ref sb, .int sn])), (sb, .inl (cB, sl, .inl sf)), (da, .inr (4, [.ref db, .int dn])), (db, .inl (cB, dl, .inl df)), (pa, .inr (4, [.ref pb, .int pn])), (pb, .inl (cB, pl, .inl pf)), (ha, .inr (2, [.ref pa, .ref da])), (ea, .inr (5, [.ref sa, .ref da, .ref ha, .int ra, .int rr]))] r [(sa, .inr (4, [.ref sb, .int sn])), (sb, .inl (cB, sl, .inl sf)), (da, .inr (4, [.ref db, .int dn])), (db, .inl (cB, dl, .inl df)), (pa, .inr (4, [.ref pb, .int pn])), (pb, .inl (cB, pl, .inl pf)), (ha, .inr (2, [.ref pa, .ref da])), (ea, .inr (5, [.ref sa, .ref da, .ref ha, .int ra, .int rr]))] := by
  unfold zf_D_atEnd at h
  refine CoZ.ofG (cc := zc_D_atEnd) (maxL := 1) (own := RX4) (by decide) rfl rfl rfl trivial (Nat.le_of_ble_eq_true rfl) (L0 := [(0, .ref ea)]) rfl (fun k F E => ?_)
  refine G_aload_n F zd_D_atEnd_0 rfl (j := 0) rfl ?_
  refine G_get F fa_D_25_SR (q := 7) zd_D_atEnd_1 rfl rfl ?_
  refine G_aload_n F zd_D_atEnd_4 rfl (j := 0) rfl ?_
  refine G_get F fa_D_7_SR (q := 7) zd_D_atEnd_5 rfl rfl ?_
  refine G_get F fa_D_37_R (q := 0) zd_D_atEnd_8 rfl rfl ?_
  refine G_icmp_lt F zd_D_atEnd_11 (tgt := 18) rfl (fun h0 => ?_) (fun h0 => ?_)
  · have h := iP h h0
    refine G_iconst (v := (0 : Int32)) F zd_D_atEnd_18 (by decide) ?_
    have q1 := Option.some.inj h
    subst q1
    exact E 19 _ zd_D_atEnd_19 (by decide)
  · have h := iN h h0
    refine G_iconst (v := (1 : Int32)) F zd_D_atEnd_14 (by decide) ?_
    refine G_goto F zd_D_atEnd_15 (tgt := 19) rfl ?_
    have q1 := Option.some.inj h
    subst q1
    exact E 19 _ zd_D_atEnd_19 (by decide)

set_option maxHeartbeats 4000000 in
set_option maxRecDepth 100000 in
theorem zk_D_takeTwo_S (l : Launch) (D : va_G) (cB cI cJ : ClassId) (sa : Nat) (sb : Nat) (da : Nat) (db : Nat) (pa : Nat) (pb : Nat) (ha : Nat) (ea : Nat) (sn : Int32) (sl : Nat) (sf : Nat → Int32) (dn : Int32) (dl : Nat) (df : Nat → Int32) (pn : Int32) (pl : Nat) (pf : Nat → Int32) (ra : Int32) (rr : Int32) (r : Int32) (ra' : Int32) (rr' : Int32) (h : zf_D_takeTwo sn sl sf ra rr = some (r, ra', rr')) : CoI l zy_D_takeTwo zw_D_takeTwo { frames := 2, cells := 0, slots := 0, locals := 43 } D cB cI cJ [.ref ea] [(sa, .inr (4, [.ref sb, .int sn])), (sb, .inl (cB, sl, .inl sf)), (da, .inr (4, [.ref db, .int dn])), (db, .inl (cB, dl, .inl df)), (pa, .inr (4, [.ref pb, .int pn])), (pb, .inl (cB, pl, .inl pf)), (ha, .inr (2, [.ref pa, .ref da])), (ea, .inr (5, [.ref sa, .ref da, .ref ha, .int ra, .int rr]))] r [(sa, .inr (4, [.ref sb, .int sn])), (sb, .inl (cB, sl, .inl sf)), (da, .inr (4, [.ref db, .int dn])), (db, .inl (cB, dl, .inl df)), (pa, .inr (4, [.ref pb, .int pn])), (pb, .inl (cB, pl, .inl pf)), (ha, .inr (2, [.ref pa, .ref da])), (ea, .inr (5, [.ref sa, .ref da, .ref ha, .int ra', .int rr']))] := by
  unfold zf_D_takeTwo at h
  refine CoI.ofG (cc := zc_D_takeTwo) (maxL := 2) (own := RX4) (by decide) rfl rfl rfl trivial (Nat.le_of_ble_eq_true rfl) (L0 := [(0, .ref ea)]) rfl (fun k F E => ?_)
  refine G_aload_n F zd_D_takeTwo_0 rfl (j := 0) rfl ?_
  obtain ⟨v1, v2, v3, hc1, h⟩ := bc3_s h
  refine G_calliU F (zk_D_take_S l D cB cI cJ sa sb da db pa pb ha ea sn sl sf dn dl df pn pl pf ra rr v1 v2 v3 hc1) (rest := []) [0, 1, 2, 3, 4, 5, 6, 7] rfl rfl rfl (ws' := [(sa, .inr (4, [.ref sb, .int sn])), (sb, .inl (cB, sl, .inl sf)), (da, .inr (4, [.ref db, .int dn])), (db, .inl (cB, dl, .inl df)), (pa, .inr (4, [.ref pb, .int pn])), (pb, .inl (cB, pl, .inl pf)), (ha, .inr (2, [.ref pa, .ref da])), (ea, .inr (5, [.ref sa, .ref da, .ref ha, .int v2, .int v3]))]) rfl (q0 := 7) rfl (x := ⟨"PressSuite$Reader", "take", "()I"⟩) cv_D_48_SR rfl rfl ⟨Nat.le_of_ble_eq_true rfl, Nat.le_of_ble_eq_true rfl⟩ hf0 rfl (Nat.le_of_ble_eq_true rfl) zd_D_takeTwo_1 rfl ?_
  refine G_istore_n F zd_D_takeTwo_4 rfl (by decide) (L' := [(1, .int v1), (0, .ref ea)]) rfl ?_
  refine G_iload_n F zd_D_takeTwo_5 rfl (j := 0) rfl ?_
  refine G_aload_n F zd_D_takeTwo_6 rfl (j := 1) rfl ?_
  obtain ⟨v4, v5, v6, hc7, h⟩ := bc3_s h
  refine G_calliU F (zk_D_take_S l D cB cI cJ sa sb da db pa pb ha ea sn sl sf dn dl df pn pl pf v2 v3 v4 v5 v6 hc7) (rest := [.int v1]) [0, 1, 2, 3, 4, 5, 6, 7] rfl rfl rfl (ws' := [(sa, .inr (4, [.ref sb, .int sn])), (sb, .inl (cB, sl, .inl sf)), (da, .inr (4, [.ref db, .int dn])), (db, .inl (cB, dl, .inl df)), (pa, .inr (4, [.ref pb, .int pn])), (pb, .inl (cB, pl, .inl pf)), (ha, .inr (2, [.ref pa, .ref da])), (ea, .inr (5, [.ref sa, .ref da, .ref ha, .int v5, .int v6]))]) rfl (q0 := 7) rfl (x := ⟨"PressSuite$Reader", "take", "()I"⟩) cv_D_48_SR rfl rfl ⟨Nat.le_of_ble_eq_true rfl, Nat.le_of_ble_eq_true rfl⟩ hf0 rfl (Nat.le_of_ble_eq_true rfl) zd_D_takeTwo_7 rfl ?_
  refine G_bipush (v := (8 : Int32)) F zd_D_takeTwo_10 (by decide) ?_
  refine G_ishl F zd_D_takeTwo_12 ?_
  refine G_ior F zd_D_takeTwo_13 ?_
  obtain ⟨q1, q2, q3⟩ := inj3 h
  subst q1
  subst q2
  subst q3
  exact E 14 _ zd_D_takeTwo_14

set_option maxHeartbeats 4000000 in
set_option maxRecDepth 100000 in
theorem zk_D_requireDistance_S (l : Launch) (D : va_G) (cB cI cJ : ClassId) (sa : Nat) (sb : Nat) (da : Nat) (db : Nat) (pa : Nat) (pb : Nat) (ha : Nat) (ea : Nat) (sn : Int32) (sl : Nat) (sf : Nat → Int32) (dn : Int32) (dl : Nat) (df : Nat → Int32) (pn : Int32) (pl : Nat) (pf : Nat → Int32) (ra : Int32) (rr : Int32) (i1 : Int32) (i2 : Int32) (rr' : Int32) (h : zf_D_requireDistance dn pn rr i1 i2 = some rr') : CoV l zy_D_requireDistance zw_D_requireDistance { frames := 1, cells := 0, slots := 0, locals := 22 } D cB cI cJ [.ref ea, .int i1, .int i2] [(sa, .inr (4, [.ref sb, .int sn])), (sb, .inl (cB, sl, .inl sf)), (da, .inr (4, [.ref db, .int dn])), (db, .inl (cB, dl, .inl df)), (pa, .inr (4, [.ref pb, .int pn])), (pb, .inl (cB, pl, .inl pf)), (ha, .inr (2, [.ref pa, .ref da])), (ea, .inr (5, [.ref sa, .ref da, .ref ha, .int ra, .int rr]))] [(sa, .inr (4, [.ref sb, .int sn])), (sb, .inl (cB, sl, .inl sf)), (da, .inr (4, [.ref db, .int dn])), (db, .inl (cB, dl, .inl df)), (pa, .inr (4, [.ref pb, .int pn])), (pb, .inl (cB, pl, .inl pf)), (ha, .inr (2, [.ref pa, .ref da])), (ea, .inr (5, [.ref sa, .ref da, .ref ha, .int ra, .int rr']))] := by
  unfold zf_D_requireDistance at h
  refine CoV.ofG (cc := zc_D_requireDistance) (maxL := 3) (own := RX4) (by decide) rfl rfl rfl trivial (Nat.le_of_ble_eq_true rfl) (L0 := [(0, .ref ea), (1, .int i1), (2, .int i2)]) rfl (fun k F E => ?_)
  refine G_aload_n F zd_D_requireDistance_0 rfl (j := 0) rfl ?_
  refine G_iload_n F zd_D_requireDistance_1 rfl (j := 1) rfl ?_
  obtain ⟨u1, hj21, h⟩ := bc1_s h
  have X21 : G D 3 k 0 0 21 [(0, .ref ea), (1, .int i1), (2, .int i2)] [.int u1, .ref ea] [(sa, .inr (4, [.ref sb, .int sn])), (sb, .inl (cB, sl, .inl sf)), (da, .inr (4, [.ref db, .int dn])), (db, .inl (cB, dl, .inl df)), (pa, .inr (4, [.ref pb, .int pn])), (pb, .inl (cB, pl, .inl pf)), (ha, .inr (2, [.ref pa, .ref da])), (ea, .inr (5, [.ref sa, .ref da, .ref ha, .int ra, .int rr]))] := by
    refine G_iload_n F zd_D_requireDistance_21 rfl (j := 2) rfl ?_
    obtain ⟨v3, hc22, h⟩ := bc1_s h
    refine G_callvU F (zk_D_refuseIf_S l D cB cI cJ sa sb da db pa pb ha ea sn sl sf dn dl df pn pl pf ra rr u1 i2 v3 hc22) (rest := []) [0, 1, 2, 3, 4, 5, 6, 7] rfl rfl rfl (ws' := [(sa, .inr (4, [.ref sb, .int sn])), (sb, .inl (cB, sl, .inl sf)), (da, .inr (4, [.ref db, .int dn])), (db, .inl (cB, dl, .inl df)), (pa, .inr (4, [.ref pb, .int pn])), (pb, .inl (cB, pl, .inl pf)), (ha, .inr (2, [.ref pa, .ref da])), (ea, .inr (5, [.ref sa, .ref da, .ref ha, .int ra, .int v3]))]) rfl (q0 := 7) rfl (x := ⟨"PressSuite$Reader", "refuseIf", "(ZI)V"⟩) cv_D_40_SR rfl rfl ⟨Nat.le_of_ble_eq_true rfl, Nat.le_of_ble_eq_true rfl⟩ hf0 rfl (Nat.le_of_ble_eq_true rfl) zd_D_requireDistance_22 rfl ?_
    have q1 := Option.some.inj h
    subst q1
    exact E 25 _ zd_D_requireDistance_25
  have h := hj21
  refine G_if_eq F zd_D_requireDistance_2 (tgt := 16) rfl (fun h0 => ?_) (fun h0 => ?_)
  · have h := iP h h0
    refine G_iconst (v := (1 : Int32)) F zd_D_requireDistance_16 (by decide) ?_
    refine G_goto F zd_D_requireDistance_17 (tgt := 21) rfl ?_
    have q1 := Option.some.inj h
    subst q1
    exact G_lv [0, 1, 2] rfl X21
  · have h := iN h h0
    refine G_iload_n F zd_D_requireDistance_5 rfl (j := 1) rfl ?_
    refine G_aload_n F zd_D_requireDistance_6 rfl (j := 0) rfl ?_
    refine G_get F fa_D_21_SR (q := 7) zd_D_requireDistance_7 rfl rfl ?_
    obtain ⟨v2, hc10, h⟩ := bc1_s h
    refine G_calliV0 F (zk_H_length l D cB cI cJ pa pb da db ha pn pl pf dn dl df v2 hc10) (rest := [.int i1, .ref ea]) [4, 5, 2, 3, 6] rfl rfl (q0 := 6) rfl cv_D_52_H rfl rfl ⟨Nat.le_of_ble_eq_true rfl, Nat.le_of_ble_eq_true rfl⟩ hf0 rfl (Nat.le_of_ble_eq_true rfl) zd_D_requireDistance_10 rfl ?_
    refine G_icmp_le F zd_D_requireDistance_13 (tgt := 20) rfl (fun h0 => ?_) (fun h0 => ?_)
    · have h := iP h h0
      refine G_iconst (v := (0 : Int32)) F zd_D_requireDistance_20 (by decide) ?_
      have q1 := Option.some.inj h
      subst q1
      exact G_lv [0, 1, 2] rfl X21
    · have h := iN h h0
      refine G_iconst (v := (1 : Int32)) F zd_D_requireDistance_16 (by decide) ?_
      refine G_goto F zd_D_requireDistance_17 (tgt := 21) rfl ?_
      have q1 := Option.some.inj h
      subst q1
      exact G_lv [0, 1, 2] rfl X21

set_option maxHeartbeats 4000000 in
set_option maxRecDepth 100000 in
theorem zl_D_copyBack_S_2 {k : GC} {l : Launch} {D : va_G} {cB cI cJ : ClassId} (F : GF k l { frames := 2, cells := 0, slots := 0, locals := 42 } zc_D_copyBack 4 RX4 D cB cI cJ) (sn : Int32) (sl : Nat) (sf : Nat → Int32) (dl : Nat) (pn : Int32) (pl : Nat) (pf : Nat → Int32) (ra : Int32) (rr : Int32) (i1 : Int32) (i2 : Int32) (sa : Nat) (sb : Nat) (da : Nat) (db : Nat) (pa : Nat) (pb : Nat) (ha : Nat) (ea : Nat) : ∀ (n : Nat) (v1 : Int32) (v2 : Int32) (v3 : Nat → Int32) (w1 : Int32) (w2 : Int32) (w3 : Nat → Int32), zf_D_copyBack_L2 dl pn pl pf rr i1 i2 n v1 v2 v3 = some (w1, w2, w3) → G D 4 k 0 0 43 [(0, .ref ea), (1, .int i1), (2, .int i2), (3, .int w1)] [] [(sa, .inr (4, [.ref sb, .int sn])), (sb, .inl (cB, sl, .inl sf)), (da, .inr (4, [.ref db, .int w2])), (db, .inl (cB, dl, .inl w3)), (pa, .inr (4, [.ref pb, .int pn])), (pb, .inl (cB, pl, .inl pf)), (ha, .inr (2, [.ref pa, .ref da])), (ea, .inr (5, [.ref sa, .ref da, .ref ha, .int ra, .int rr]))] → G D 4 k 0 0 2 [(0, .ref ea), (1, .int i1), (2, .int i2), (3, .int v1)] [] [(sa, .inr (4, [.ref sb, .int sn])), (sb, .inl (cB, sl, .inl sf)), (da, .inr (4, [.ref db, .int v2])), (db, .inl (cB, dl, .inl v3)), (pa, .inr (4, [.ref pb, .int pn])), (pb, .inl (cB, pl, .inl pf)), (ha, .inr (2, [.ref pa, .ref da])), (ea, .inr (5, [.ref sa, .ref da, .ref ha, .int ra, .int rr]))] := by
  intro n
  induction n with
  | zero =>
    intro v1 v2 v3 w1 w2 w3 h
    rw [zf_D_copyBack_L2_0] at h
    cases h
  | succ n ih =>
    intro v1 v2 v3 w1 w2 w3 h hx
    have h := (zf_D_copyBack_L2_s dl pn pl pf rr i1 i2 n v1 v2 v3).symm.trans h
    refine G_iload_n F zd_D_copyBack_2 rfl (j := 3) rfl ?_
    refine G_iload_n F zd_D_copyBack_3 rfl (j := 2) rfl ?_
    refine G_icmp_ge F zd_D_copyBack_4 (tgt := 43) rfl (fun h0 => ?_) (fun h0 => ?_)
    · have h := iP h h0
      obtain ⟨q1, q2, q3⟩ := inj3 h
      subst q1
      subst q2
      subst q3
      exact G_lv [0, 1, 2, 3] rfl hx
    · have h := iN h h0
      refine G_aload_n F zd_D_copyBack_7 rfl (j := 0) rfl ?_
      obtain ⟨v4, hc8, h⟩ := bc1_s h
      refine G_calliU0 F (zk_D_refused_S l D cB cI cJ sa sb da db pa pb ha ea sn sl sf v2 dl v3 pn pl pf ra rr v4 hc8) (rest := []) [0, 1, 2, 3, 4, 5, 6, 7] rfl rfl (q0 := 7) rfl (x := ⟨"PressSuite$Reader", "refused", "()Z"⟩) cv_D_55_SR rfl rfl ⟨Nat.le_of_ble_eq_true rfl, Nat.le_of_ble_eq_true rfl⟩ hf0 rfl (Nat.le_of_ble_eq_true rfl) zd_D_copyBack_8 rfl ?_
      refine G_if_ne F zd_D_copyBack_11 (tgt := 43) rfl (fun h0 => ?_) (fun h0 => ?_)
      · have h := iN h h0
        obtain ⟨q1, q2, q3⟩ := inj3 h
        subst q1
        subst q2
        subst q3
        exact G_lv [0, 1, 2, 3] rfl hx
      · have h := iP h h0
        refine G_aload_n F zd_D_copyBack_14 rfl (j := 0) rfl ?_
        refine G_get F fa_D_13_SR (q := 7) zd_D_copyBack_15 rfl rfl ?_
        refine G_aload_n F zd_D_copyBack_18 rfl (j := 0) rfl ?_
        refine G_get F fa_D_21_SR (q := 7) zd_D_copyBack_19 rfl rfl ?_
        refine G_aload_n F zd_D_copyBack_22 rfl (j := 0) rfl ?_
        refine G_get F fa_D_21_SR (q := 7) zd_D_copyBack_23 rfl rfl ?_
        obtain ⟨v5, hc26, h⟩ := bc1_s h
        refine G_calliV0 F (zk_H_length l D cB cI cJ pa pb da db ha pn pl pf v2 dl v3 v5 hc26) (rest := [.ref ha, .ref da]) [4, 5, 2, 3, 6] rfl rfl (q0 := 6) rfl cv_D_52_H rfl rfl ⟨Nat.le_of_ble_eq_true rfl, Nat.le_of_ble_eq_true rfl⟩ hf0 rfl (Nat.le_of_ble_eq_true rfl) zd_D_copyBack_26 rfl ?_
        refine G_iload_n F zd_D_copyBack_29 rfl (j := 1) rfl ?_
        refine G_isub F zd_D_copyBack_30 ?_
        obtain ⟨v6, hc31, h⟩ := bc1_s h
        refine G_calliV0 F (zk_H_byteAt l D cB cI cJ pa pb da db ha pn pl pf v2 dl v3 (v5 - i1) v6 hc31) (rest := [.ref da]) [4, 5, 2, 3, 6] rfl rfl (q0 := 6) rfl cv_D_63_H rfl rfl ⟨Nat.le_of_ble_eq_true rfl, Nat.le_of_ble_eq_true rfl⟩ hf0 rfl (Nat.le_of_ble_eq_true rfl) zd_D_copyBack_31 rfl ?_
        obtain ⟨v7, v8, hc34, h⟩ := bc2_s h
        refine G_callvV F (zk_R_add l D cB cI cJ da db v2 dl v3 v6 v7 v8 hc34) (rest := []) [2, 3] rfl rfl rfl (ws' := [(sa, .inr (4, [.ref sb, .int sn])), (sb, .inl (cB, sl, .inl sf)), (da, .inr (4, [.ref db, .int v7])), (db, .inl (cB, dl, .inl v8)), (pa, .inr (4, [.ref pb, .int pn])), (pb, .inl (cB, pl, .inl pf)), (ha, .inr (2, [.ref pa, .ref da])), (ea, .inr (5, [.ref sa, .ref da, .ref ha, .int ra, .int rr]))]) rfl (q0 := 2) rfl cv_D_59_R rfl rfl ⟨Nat.le_of_ble_eq_true rfl, Nat.le_of_ble_eq_true rfl⟩ hf0 rfl (Nat.le_of_ble_eq_true rfl) zd_D_copyBack_34 rfl ?_
        obtain ⟨v9, ev9, h⟩ := bnd_s h
        refine G_iinc F zd_D_copyBack_37 (j := 3) rfl (w := (1 : Int32)) (by decide) ev9 (by decide) (L' := [(3, .int v9), (0, .ref ea), (1, .int i1), (2, .int i2)]) rfl ?_
        refine G_goto F zd_D_copyBack_40 (tgt := 2) rfl ?_
        exact G_lv [1, 2, 3, 0] rfl (ih _ _ _ _ _ _ h hx)
set_option maxHeartbeats 4000000 in
set_option maxRecDepth 100000 in
theorem zk_D_copyBack_S (l : Launch) (D : va_G) (cB cI cJ : ClassId) (sa : Nat) (sb : Nat) (da : Nat) (db : Nat) (pa : Nat) (pb : Nat) (ha : Nat) (ea : Nat) (sn : Int32) (sl : Nat) (sf : Nat → Int32) (dn : Int32) (dl : Nat) (df : Nat → Int32) (pn : Int32) (pl : Nat) (pf : Nat → Int32) (ra : Int32) (rr : Int32) (i1 : Int32) (i2 : Int32) (dn' : Int32) (df' : Nat → Int32) (h : zf_D_copyBack dn dl df pn pl pf rr i1 i2 = some (dn', df')) : CoV l zy_D_copyBack zw_D_copyBack { frames := 2, cells := 0, slots := 0, locals := 42 } D cB cI cJ [.ref ea, .int i1, .int i2] [(sa, .inr (4, [.ref sb, .int sn])), (sb, .inl (cB, sl, .inl sf)), (da, .inr (4, [.ref db, .int dn])), (db, .inl (cB, dl, .inl df)), (pa, .inr (4, [.ref pb, .int pn])), (pb, .inl (cB, pl, .inl pf)), (ha, .inr (2, [.ref pa, .ref da])), (ea, .inr (5, [.ref sa, .ref da, .ref ha, .int ra, .int rr]))] [(sa, .inr (4, [.ref sb, .int sn])), (sb, .inl (cB, sl, .inl sf)), (da, .inr (4, [.ref db, .int dn'])), (db, .inl (cB, dl, .inl df')), (pa, .inr (4, [.ref pb, .int pn])), (pb, .inl (cB, pl, .inl pf)), (ha, .inr (2, [.ref pa, .ref da])), (ea, .inr (5, [.ref sa, .ref da, .ref ha, .int ra, .int rr]))] := by
  unfold zf_D_copyBack at h
  refine CoV.ofG (cc := zc_D_copyBack) (maxL := 4) (own := RX4) (by decide) rfl rfl rfl trivial (Nat.le_of_ble_eq_true rfl) (L0 := [(0, .ref ea), (1, .int i1), (2, .int i2)]) rfl (fun k F E => ?_)
  refine G_iconst (v := (0 : Int32)) F zd_D_copyBack_0 (by decide) ?_
  refine G_istore_n F zd_D_copyBack_1 rfl (by decide) (L' := [(3, .int (0 : Int32)), (0, .ref ea), (1, .int i1), (2, .int i2)]) rfl ?_
  obtain ⟨x10, x11, x12, hl2, h⟩ := bc3_s h
  refine G_lv [1, 2, 3, 0] rfl (zl_D_copyBack_S_2 F sn sl sf dl pn pl pf ra rr i1 i2 sa sb da db pa pb ha ea 1000 (0 : Int32) dn df x10 x11 x12 hl2 ?_)
  obtain ⟨q1, q2⟩ := inj2 h
  subst q1
  subst q2
  exact E 43 _ zd_D_copyBack_43

set_option maxHeartbeats 4000000 in
set_option maxRecDepth 100000 in
theorem zk_SR_readSequence (l : Launch) (D : va_G) (cB cI cJ : ClassId) (sa : Nat) (sb : Nat) (da : Nat) (db : Nat) (pa : Nat) (pb : Nat) (ha : Nat) (ea : Nat) (sn : Int32) (sl : Nat) (sf : Nat → Int32) (dn : Int32) (dl : Nat) (df : Nat → Int32) (pn : Int32) (pl : Nat) (pf : Nat → Int32) (ra : Int32) (rr : Int32) (r : Int32) (dn' : Int32) (df' : Nat → Int32) (ra' : Int32) (rr' : Int32) (h : zf_SR_readSequence sn sl sf dn dl df pn pl pf ra rr = some (r, dn', df', ra', rr')) : CoI l zy_SR_readSequence zw_SR_readSequence { frames := 3, cells := 0, slots := 0, locals := 67 } D cB cI cJ [.ref ea] [(sa, .inr (4, [.ref sb, .int sn])), (sb, .inl (cB, sl, .inl sf)), (da, .inr (4, [.ref db, .int dn])), (db, .inl (cB, dl, .inl df)), (pa, .inr (4, [.ref pb, .int pn])), (pb, .inl (cB, pl, .inl pf)), (ha, .inr (2, [.ref pa, .ref da])), (ea, .inr (5, [.ref sa, .ref da, .ref ha, .int ra, .int rr]))] r [(sa, .inr (4, [.ref sb, .int sn])), (sb, .inl (cB, sl, .inl sf)), (da, .inr (4, [.ref db, .int dn'])), (db, .inl (cB, dl, .inl df')), (pa, .inr (4, [.ref pb, .int pn])), (pb, .inl (cB, pl, .inl pf)), (ha, .inr (2, [.ref pa, .ref da])), (ea, .inr (5, [.ref sa, .ref da, .ref ha, .int ra', .int rr']))] := by
  unfold zf_SR_readSequence at h
  refine CoZ.ofG (cc := zc_SR_readSequence) (maxL := 7) (own := RX6) (by decide) rfl rfl rfl trivial (Nat.le_of_ble_eq_true rfl) (L0 := [(0, .ref ea)]) rfl (fun k F E => ?_)
  refine G_aload_n F zd_SR_readSequence_0 rfl (j := 0) rfl ?_
  refine G_get F fa_SR_25_SR (q := 7) zd_SR_readSequence_1 rfl rfl ?_
  refine G_istore_n F zd_SR_readSequence_4 rfl (by decide) (L' := [(1, .int ra), (0, .ref ea)]) rfl ?_
  refine G_aload_n F zd_SR_readSequence_5 rfl (j := 1) rfl ?_
  obtain ⟨v1, v2, v3, hc6, h⟩ := bc3_s h
  refine G_calliU F (zk_D_take_S l D cB cI cJ sa sb da db pa pb ha ea sn sl sf dn dl df pn pl pf ra rr v1 v2 v3 hc6) (rest := []) [0, 1, 2, 3, 4, 5, 6, 7] rfl rfl rfl (ws' := [(sa, .inr (4, [.ref sb, .int sn])), (sb, .inl (cB, sl, .inl sf)), (da, .inr (4, [.ref db, .int dn])), (db, .inl (cB, dl, .inl df)), (pa, .inr (4, [.ref pb, .int pn])), (pb, .inl (cB, pl, .inl pf)), (ha, .inr (2, [.ref pa, .ref da])), (ea, .inr (5, [.ref sa, .ref da, .ref ha, .int v2, .int v3]))]) rfl (q0 := 7) rfl (x := ⟨"PressSuite$SequenceReader", "take", "()I"⟩) cv_SR_28_SR rfl rfl ⟨Nat.le_of_ble_eq_true rfl, Nat.le_of_ble_eq_true rfl⟩ hf0 rfl (Nat.le_of_ble_eq_true rfl) zd_SR_readSequence_6 rfl ?_
  refine G_istore_n F zd_SR_readSequence_9 rfl (by decide) (L' := [(2, .int v1), (1, .int ra), (0, .ref ea)]) rfl ?_
  refine G_aload_n F zd_SR_readSequence_10 rfl (j := 2) rfl ?_
  refine G_iload_n F zd_SR_readSequence_11 rfl (j := 0) rfl ?_
  refine G_iconst (v := (4 : Int32)) F zd_SR_readSequence_12 (by decide) ?_
  refine G_ishr F zd_SR_readSequence_13 ?_
  obtain ⟨v4, v5, v6, hc14, h⟩ := bc3_s h
  refine G_calliV F (zk_SR_takeSum l D cB cI cJ sa sb da db pa pb ha ea sn sl sf dn dl df pn pl pf v2 v3 (v1 >>> ((4 : Int32) &&& 31)) v4 v5 v6 hc14) (rest := []) [0, 1, 2, 3, 4, 5, 6, 7] rfl rfl rfl (ws' := [(sa, .inr (4, [.ref sb, .int sn])), (sb, .inl (cB, sl, .inl sf)), (da, .inr (4, [.ref db, .int dn])), (db, .inl (cB, dl, .inl df)), (pa, .inr (4, [.ref pb, .int pn])), (pb, .inl (cB, pl, .inl pf)), (ha, .inr (2, [.ref pa, .ref da])), (ea, .inr (5, [.ref sa, .ref da, .ref ha, .int v5, .int v6]))]) rfl (q0 := 7) rfl cv_SR_32_SR rfl rfl ⟨Nat.le_of_ble_eq_true rfl, Nat.le_of_ble_eq_true rfl⟩ hf0 rfl (Nat.le_of_ble_eq_true rfl) zd_SR_readSequence_14 rfl ?_
  refine G_istore_n F zd_SR_readSequence_17 rfl (by decide) (L' := [(3, .int v4), (2, .int v1), (1, .int ra), (0, .ref ea)]) rfl ?_
  refine G_aload_n F zd_SR_readSequence_18 rfl (j := 3) rfl ?_
  refine G_iload_n F zd_SR_readSequence_19 rfl (j := 0) rfl ?_
  refine G_sipush (v := (160 : Int32)) F zd_SR_readSequence_20 (by decide) ?_
  refine G_iload_n F zd_SR_readSequence_23 rfl (j := 2) rfl ?_
  obtain ⟨v7, hc24, h⟩ := bc1_s h
  refine G_callvU F (zk_D_requireRoom_S l D cB cI cJ sa sb da db pa pb ha ea sn sl sf dn dl df pn pl pf v5 v6 v4 (160 : Int32) ra v7 hc24) (rest := []) [0, 1, 2, 3, 4, 5, 6, 7] rfl rfl rfl (ws' := [(sa, .inr (4, [.ref sb, .int sn])), (sb, .inl (cB, sl, .inl sf)), (da, .inr (4, [.ref db, .int dn])), (db, .inl (cB, dl, .inl df)), (pa, .inr (4, [.ref pb, .int pn])), (pb, .inl (cB, pl, .inl pf)), (ha, .inr (2, [.ref pa, .ref da])), (ea, .inr (5, [.ref sa, .ref da, .ref ha, .int v5, .int v7]))]) rfl (q0 := 7) rfl (x := ⟨"PressSuite$SequenceReader", "requireRoom", "(III)V"⟩) cv_SR_36_SR rfl rfl ⟨Nat.le_of_ble_eq_true rfl, Nat.le_of_ble_eq_true rfl⟩ hf0 rfl (Nat.le_of_ble_eq_true rfl) zd_SR_readSequence_24 rfl ?_
  refine G_aload_n F zd_SR_readSequence_27 rfl (j := 3) rfl ?_
  refine G_iload_n F zd_SR_readSequence_28 rfl (j := 0) rfl ?_
  obtain ⟨v8, v9, v10, v11, hc29, h⟩ := bc4_s h
  refine G_callvU F (zk_D_copyLiterals_S l D cB cI cJ sa sb da db pa pb ha ea sn sl sf dn dl df pn pl pf v5 v7 v4 v8 v9 v10 v11 hc29) (rest := []) [0, 1, 2, 3, 4, 5, 6, 7] rfl rfl rfl (ws' := [(sa, .inr (4, [.ref sb, .int sn])), (sb, .inl (cB, sl, .inl sf)), (da, .inr (4, [.ref db, .int v8])), (db, .inl (cB, dl, .inl v9)), (pa, .inr (4, [.ref pb, .int pn])), (pb, .inl (cB, pl, .inl pf)), (ha, .inr (2, [.ref pa, .ref da])), (ea, .inr (5, [.ref sa, .ref da, .ref ha, .int v10, .int v11]))]) rfl (q0 := 7) rfl (x := ⟨"PressSuite$SequenceReader", "copyLiterals", "(I)V"⟩) cv_SR_40_SR rfl rfl ⟨Nat.le_of_ble_eq_true rfl, Nat.le_of_ble_eq_true rfl⟩ hf0 rfl (Nat.le_of_ble_eq_true rfl) zd_SR_readSequence_29 rfl ?_
  refine G_aload_n F zd_SR_readSequence_32 rfl (j := 3) rfl ?_
  obtain ⟨v12, hc33, h⟩ := bc1_s h
  refine G_calliU0 F (zk_D_refused_S l D cB cI cJ sa sb da db pa pb ha ea sn sl sf v8 dl v9 pn pl pf v10 v11 v12 hc33) (rest := []) [0, 1, 2, 3, 4, 5, 6, 7] rfl rfl (q0 := 7) rfl (x := ⟨"PressSuite$SequenceReader", "refused", "()Z"⟩) cv_SR_44_SR rfl rfl ⟨Nat.le_of_ble_eq_true rfl, Nat.le_of_ble_eq_true rfl⟩ hf0 rfl (Nat.le_of_ble_eq_true rfl) zd_SR_readSequence_33 rfl ?_
  refine G_if_ne F zd_SR_readSequence_36 (tgt := 46) rfl (fun h0 => ?_) (fun h0 => ?_)
  · have h := iN h h0
    refine G_iconst (v := (0 : Int32)) F zd_SR_readSequence_46 (by decide) ?_
    obtain ⟨q1, q2, q3, q4, q5⟩ := inj5 h
    subst q1
    subst q2
    subst q3
    subst q4
    subst q5
    exact E 47 _ zd_SR_readSequence_47 (by decide)
  · have h := iP h h0
    refine G_aload_n F zd_SR_readSequence_39 rfl (j := 3) rfl ?_
    obtain ⟨v13, hc40, h⟩ := bc1_s h
    refine G_calliU0 F (zk_D_atEnd_S l D cB cI cJ sa sb da db pa pb ha ea sn sl sf v8 dl v9 pn pl pf v10 v11 v13 hc40) (rest := []) [0, 1, 2, 3, 4, 5, 6, 7] rfl rfl (q0 := 7) rfl (x := ⟨"PressSuite$SequenceReader", "atEnd", "()Z"⟩) cv_SR_47_SR rfl rfl ⟨Nat.le_of_ble_eq_true rfl, Nat.le_of_ble_eq_true rfl⟩ hf0 rfl (Nat.le_of_ble_eq_true rfl) zd_SR_readSequence_40 rfl ?_
    refine G_if_eq F zd_SR_readSequence_43 (tgt := 48) rfl (fun h0 => ?_) (fun h0 => ?_)
    · have h := iP h h0
      refine G_aload_n F zd_SR_readSequence_48 rfl (j := 3) rfl ?_
      refine G_get F fa_SR_25_SR (q := 7) zd_SR_readSequence_49 rfl rfl ?_
      refine G_istore F zd_SR_readSequence_52 (by decide) (L' := [(4, .int v10), (3, .int v4), (2, .int v1), (1, .int ra), (0, .ref ea)]) rfl ?_
      refine G_aload_n F zd_SR_readSequence_54 rfl (j := 4) rfl ?_
      obtain ⟨v14, v15, v16, hc55, h⟩ := bc3_s h
      refine G_calliU F (zk_D_takeTwo_S l D cB cI cJ sa sb da db pa pb ha ea sn sl sf v8 dl v9 pn pl pf v10 v11 v14 v15 v16 hc55) (rest := []) [0, 1, 2, 3, 4, 5, 6, 7] rfl rfl rfl (ws' := [(sa, .inr (4, [.ref sb, .int sn])), (sb, .inl (cB, sl, .inl sf)), (da, .inr (4, [.ref db, .int v8])), (db, .inl (cB, dl, .inl v9)), (pa, .inr (4, [.ref pb, .int pn])), (pb, .inl (cB, pl, .inl pf)), (ha, .inr (2, [.ref pa, .ref da])), (ea, .inr (5, [.ref sa, .ref da, .ref ha, .int v15, .int v16]))]) rfl (q0 := 7) rfl (x := ⟨"PressSuite$SequenceReader", "takeTwo", "()I"⟩) cv_SR_50_SR rfl rfl ⟨Nat.le_of_ble_eq_true rfl, Nat.le_of_ble_eq_true rfl⟩ hf0 rfl (Nat.le_of_ble_eq_true rfl) zd_SR_readSequence_55 rfl ?_
      refine G_istore F zd_SR_readSequence_58 (by decide) (L' := [(5, .int v14), (4, .int v10), (3, .int v4), (2, .int v1), (1, .int ra), (0, .ref ea)]) rfl ?_
      refine G_aload_n F zd_SR_readSequence_60 rfl (j := 5) rfl ?_
      refine G_iload F zd_SR_readSequence_61 (j := 0) rfl ?_
      refine G_iload F zd_SR_readSequence_63 (j := 1) rfl ?_
      obtain ⟨v17, hc65, h⟩ := bc1_s h
      refine G_callvU F (zk_D_requireDistance_S l D cB cI cJ sa sb da db pa pb ha ea sn sl sf v8 dl v9 pn pl pf v15 v16 v14 v10 v17 hc65) (rest := []) [0, 1, 2, 3, 4, 5, 6, 7] rfl rfl rfl (ws' := [(sa, .inr (4, [.ref sb, .int sn])), (sb, .inl (cB, sl, .inl sf)), (da, .inr (4, [.ref db, .int v8])), (db, .inl (cB, dl, .inl v9)), (pa, .inr (4, [.ref pb, .int pn])), (pb, .inl (cB, pl, .inl pf)), (ha, .inr (2, [.ref pa, .ref da])), (ea, .inr (5, [.ref sa, .ref da, .ref ha, .int v15, .int v17]))]) rfl (q0 := 7) rfl (x := ⟨"PressSuite$SequenceReader", "requireDistance", "(II)V"⟩) cv_SR_53_SR rfl rfl ⟨Nat.le_of_ble_eq_true rfl, Nat.le_of_ble_eq_true rfl⟩ hf0 rfl (Nat.le_of_ble_eq_true rfl) zd_SR_readSequence_65 rfl ?_
      refine G_aload_n F zd_SR_readSequence_68 rfl (j := 5) rfl ?_
      refine G_iload_n F zd_SR_readSequence_69 rfl (j := 3) rfl ?_
      refine G_bipush (v := (15 : Int32)) F zd_SR_readSequence_70 (by decide) ?_
      refine G_iand F zd_SR_readSequence_72 ?_
      obtain ⟨v18, v19, v20, hc73, h⟩ := bc3_s h
      refine G_calliV F (zk_SR_takeSum l D cB cI cJ sa sb da db pa pb ha ea sn sl sf v8 dl v9 pn pl pf v15 v17 (v1 &&& (15 : Int32)) v18 v19 v20 hc73) (rest := []) [0, 1, 2, 3, 4, 5, 6, 7] rfl rfl rfl (ws' := [(sa, .inr (4, [.ref sb, .int sn])), (sb, .inl (cB, sl, .inl sf)), (da, .inr (4, [.ref db, .int v8])), (db, .inl (cB, dl, .inl v9)), (pa, .inr (4, [.ref pb, .int pn])), (pb, .inl (cB, pl, .inl pf)), (ha, .inr (2, [.ref pa, .ref da])), (ea, .inr (5, [.ref sa, .ref da, .ref ha, .int v19, .int v20]))]) rfl (q0 := 7) rfl cv_SR_32_SR rfl rfl ⟨Nat.le_of_ble_eq_true rfl, Nat.le_of_ble_eq_true rfl⟩ hf0 rfl (Nat.le_of_ble_eq_true rfl) zd_SR_readSequence_73 rfl ?_
      refine G_iconst (v := (4 : Int32)) F zd_SR_readSequence_76 (by decide) ?_
      refine G_iadd F zd_SR_readSequence_77 ?_
      obtain ⟨v21, ev21, h⟩ := bnd_s h
      refine G_topi ev21 ?_
      refine G_istore F zd_SR_readSequence_78 (by decide) (L' := [(6, .int v21), (5, .int v14), (4, .int v10), (3, .int v4), (2, .int v1), (1, .int ra), (0, .ref ea)]) rfl ?_
      refine G_aload_n F zd_SR_readSequence_80 rfl (j := 6) rfl ?_
      refine G_iload F zd_SR_readSequence_81 (j := 0) rfl ?_
      refine G_sipush (v := (160 : Int32)) F zd_SR_readSequence_83 (by decide) ?_
      refine G_iload_n F zd_SR_readSequence_86 rfl (j := 5) rfl ?_
      obtain ⟨v22, hc87, h⟩ := bc1_s h
      refine G_callvU F (zk_D_requireRoom_S l D cB cI cJ sa sb da db pa pb ha ea sn sl sf v8 dl v9 pn pl pf v19 v20 v21 (160 : Int32) ra v22 hc87) (rest := []) [0, 1, 2, 3, 4, 5, 6, 7] rfl rfl rfl (ws' := [(sa, .inr (4, [.ref sb, .int sn])), (sb, .inl (cB, sl, .inl sf)), (da, .inr (4, [.ref db, .int v8])), (db, .inl (cB, dl, .inl v9)), (pa, .inr (4, [.ref pb, .int pn])), (pb, .inl (cB, pl, .inl pf)), (ha, .inr (2, [.ref pa, .ref da])), (ea, .inr (5, [.ref sa, .ref da, .ref ha, .int v19, .int v22]))]) rfl (q0 := 7) rfl (x := ⟨"PressSuite$SequenceReader", "requireRoom", "(III)V"⟩) cv_SR_36_SR rfl rfl ⟨Nat.le_of_ble_eq_true rfl, Nat.le_of_ble_eq_true rfl⟩ hf0 rfl (Nat.le_of_ble_eq_true rfl) zd_SR_readSequence_87 rfl ?_
      refine G_aload_n F zd_SR_readSequence_90 rfl (j := 6) rfl ?_
      refine G_iload F zd_SR_readSequence_91 (j := 1) rfl ?_
      refine G_iload F zd_SR_readSequence_93 (j := 0) rfl ?_
      obtain ⟨v23, v24, hc95, h⟩ := bc2_s h
      refine G_callvU F (zk_D_copyBack_S l D cB cI cJ sa sb da db pa pb ha ea sn sl sf v8 dl v9 pn pl pf v19 v22 v14 v21 v23 v24 hc95) (rest := []) [0, 1, 2, 3, 4, 5, 6, 7] rfl rfl rfl (ws' := [(sa, .inr (4, [.ref sb, .int sn])), (sb, .inl (cB, sl, .inl sf)), (da, .inr (4, [.ref db, .int v23])), (db, .inl (cB, dl, .inl v24)), (pa, .inr (4, [.ref pb, .int pn])), (pb, .inl (cB, pl, .inl pf)), (ha, .inr (2, [.ref pa, .ref da])), (ea, .inr (5, [.ref sa, .ref da, .ref ha, .int v19, .int v22]))]) rfl (q0 := 7) rfl (x := ⟨"PressSuite$SequenceReader", "copyBack", "(II)V"⟩) cv_SR_57_SR rfl rfl ⟨Nat.le_of_ble_eq_true rfl, Nat.le_of_ble_eq_true rfl⟩ hf0 rfl (Nat.le_of_ble_eq_true rfl) zd_SR_readSequence_95 rfl ?_
      refine G_aload_n F zd_SR_readSequence_98 rfl (j := 6) rfl ?_
      obtain ⟨v25, hc99, h⟩ := bc1_s h
      refine G_calliU0 F (zk_D_refused_S l D cB cI cJ sa sb da db pa pb ha ea sn sl sf v23 dl v24 pn pl pf v19 v22 v25 hc99) (rest := []) [0, 1, 2, 3, 4, 5, 6, 7] rfl rfl (q0 := 7) rfl (x := ⟨"PressSuite$SequenceReader", "refused", "()Z"⟩) cv_SR_44_SR rfl rfl ⟨Nat.le_of_ble_eq_true rfl, Nat.le_of_ble_eq_true rfl⟩ hf0 rfl (Nat.le_of_ble_eq_true rfl) zd_SR_readSequence_99 rfl ?_
      refine G_if_ne F zd_SR_readSequence_102 (tgt := 109) rfl (fun h0 => ?_) (fun h0 => ?_)
      · have h := iN h h0
        refine G_iconst (v := (0 : Int32)) F zd_SR_readSequence_109 (by decide) ?_
        obtain ⟨q1, q2, q3, q4, q5⟩ := inj5 h
        subst q1
        subst q2
        subst q3
        subst q4
        subst q5
        exact E 110 _ zd_SR_readSequence_110 (by decide)
      · have h := iP h h0
        refine G_iconst (v := (1 : Int32)) F zd_SR_readSequence_105 (by decide) ?_
        refine G_goto F zd_SR_readSequence_106 (tgt := 110) rfl ?_
        obtain ⟨q1, q2, q3, q4, q5⟩ := inj5 h
        subst q1
        subst q2
        subst q3
        subst q4
        subst q5
        exact E 110 _ zd_SR_readSequence_110 (by decide)
    · have h := iN h h0
      refine G_iconst (v := (0 : Int32)) F zd_SR_readSequence_46 (by decide) ?_
      obtain ⟨q1, q2, q3, q4, q5⟩ := inj5 h
      subst q1
      subst q2
      subst q3
      subst q4
      subst q5
      exact E 47 _ zd_SR_readSequence_47 (by decide)

set_option maxHeartbeats 4000000 in
set_option maxRecDepth 100000 in
theorem zl_SR_readAll_4 {k : GC} {l : Launch} {D : va_G} {cB cI cJ : ClassId} (F : GF k l { frames := 4, cells := 0, slots := 0, locals := 93 } zc_SR_readAll 3 RX6 D cB cI cJ) (sn : Int32) (sl : Nat) (sf : Nat → Int32) (dl : Nat) (pn : Int32) (pl : Nat) (pf : Nat → Int32) (sa : Nat) (sb : Nat) (da : Nat) (db : Nat) (pa : Nat) (pb : Nat) (ha : Nat) (ea : Nat) : ∀ (n : Nat) (v1 : Int32) (v2 : Int32) (v3 : Int32) (v4 : Nat → Int32) (v5 : Int32) (v6 : Int32) (w1 : Int32) (w2 : Int32) (w3 : Int32) (w4 : Nat → Int32) (w5 : Int32) (w6 : Int32), zf_SR_readAll_L4 sn sl sf dl pn pl pf n v1 v2 v3 v4 v5 v6 = some (w1, w2, w3, w4, w5, w6) → G D 3 k 0 0 30 [(0, .ref ea), (1, .int w1), (2, .int w2)] [] [(sa, .inr (4, [.ref sb, .int sn])), (sb, .inl (cB, sl, .inl sf)), (da, .inr (4, [.ref db, .int w3])), (db, .inl (cB, dl, .inl w4)), (pa, .inr (4, [.ref pb, .int pn])), (pb, .inl (cB, pl, .inl pf)), (ha, .inr (2, [.ref pa, .ref da])), (ea, .inr (5, [.ref sa, .ref da, .ref ha, .int w5, .int w6]))] → G D 3 k 0 0 4 [(0, .ref ea), (1, .int v1), (2, .int v2)] [] [(sa, .inr (4, [.ref sb, .int sn])), (sb, .inl (cB, sl, .inl sf)), (da, .inr (4, [.ref db, .int v3])), (db, .inl (cB, dl, .inl v4)), (pa, .inr (4, [.ref pb, .int pn])), (pb, .inl (cB, pl, .inl pf)), (ha, .inr (2, [.ref pa, .ref da])), (ea, .inr (5, [.ref sa, .ref da, .ref ha, .int v5, .int v6]))] := by
  intro n
  induction n with
  | zero =>
    intro v1 v2 v3 v4 v5 v6 w1 w2 w3 w4 w5 w6 h
    rw [zf_SR_readAll_L4_0] at h
    cases h
  | succ n ih =>
    intro v1 v2 v3 v4 v5 v6 w1 w2 w3 w4 w5 w6 h hx
    have h := (zf_SR_readAll_L4_s sn sl sf dl pn pl pf n v1 v2 v3 v4 v5 v6).symm.trans h
    refine G_iload_n F zd_SR_readAll_4 rfl (j := 2) rfl ?_
    refine G_aload_n F zd_SR_readAll_5 rfl (j := 0) rfl ?_
    refine G_get F fa_SR_9_SR (q := 7) zd_SR_readAll_6 rfl rfl ?_
    refine G_get F fa_SR_15_R (q := 0) zd_SR_readAll_9 rfl rfl ?_
    refine G_icmp_gt F zd_SR_readAll_12 (tgt := 30) rfl (fun h0 => ?_) (fun h0 => ?_)
    · have h := iP h h0
      obtain ⟨q1, q2, q3, q4, q5, q6⟩ := inj6 h
      subst q1
      subst q2
      subst q3
      subst q4
      subst q5
      subst q6
      exact G_lv [0, 1, 2] rfl hx
    · have h := iN h h0
      refine G_iload_n F zd_SR_readAll_15 rfl (j := 1) rfl ?_
      refine G_if_eq F zd_SR_readAll_16 (tgt := 30) rfl (fun h0 => ?_) (fun h0 => ?_)
      · have h := iP h h0
        obtain ⟨q1, q2, q3, q4, q5, q6⟩ := inj6 h
        subst q1
        subst q2
        subst q3
        subst q4
        subst q5
        subst q6
        exact G_lv [0, 1, 2] rfl hx
      · have h := iN h h0
        refine G_aload_n F zd_SR_readAll_19 rfl (j := 0) rfl ?_
        obtain ⟨v7, v8, v9, v10, v11, hc20, h⟩ := bc5_s h
        refine G_calliV F (zk_SR_readSequence l D cB cI cJ sa sb da db pa pb ha ea sn sl sf v3 dl v4 pn pl pf v5 v6 v7 v8 v9 v10 v11 hc20) (rest := []) [0, 1, 2, 3, 4, 5, 6, 7] rfl rfl rfl (ws' := [(sa, .inr (4, [.ref sb, .int sn])), (sb, .inl (cB, sl, .inl sf)), (da, .inr (4, [.ref db, .int v8])), (db, .inl (cB, dl, .inl v9)), (pa, .inr (4, [.ref pb, .int pn])), (pb, .inl (cB, pl, .inl pf)), (ha, .inr (2, [.ref pa, .ref da])), (ea, .inr (5, [.ref sa, .ref da, .ref ha, .int v10, .int v11]))]) rfl (q0 := 7) rfl cv_SR_21_SR rfl rfl ⟨Nat.le_of_ble_eq_true rfl, Nat.le_of_ble_eq_true rfl⟩ hf0 rfl (Nat.le_of_ble_eq_true rfl) zd_SR_readAll_20 rfl ?_
        refine G_istore_n F zd_SR_readAll_23 rfl (by decide) (L' := [(1, .int v7), (0, .ref ea), (2, .int v2)]) rfl ?_
        obtain ⟨v12, ev12, h⟩ := bnd_s h
        refine G_iinc F zd_SR_readAll_24 (j := 2) rfl (w := (1 : Int32)) (by decide) ev12 (by decide) (L' := [(2, .int v12), (1, .int v7), (0, .ref ea)]) rfl ?_
        refine G_goto F zd_SR_readAll_27 (tgt := 4) rfl ?_
        exact G_lv [2, 1, 0] rfl (ih _ _ _ _ _ _ _ _ _ _ _ _ h hx)
set_option maxHeartbeats 4000000 in
set_option maxRecDepth 100000 in
theorem zk_SR_readAll (l : Launch) (D : va_G) (cB cI cJ : ClassId) (sa : Nat) (sb : Nat) (da : Nat) (db : Nat) (pa : Nat) (pb : Nat) (ha : Nat) (ea : Nat) (sn : Int32) (sl : Nat) (sf : Nat → Int32) (dn : Int32) (dl : Nat) (df : Nat → Int32) (pn : Int32) (pl : Nat) (pf : Nat → Int32) (ra : Int32) (rr : Int32) (dn' : Int32) (df' : Nat → Int32) (ra' : Int32) (rr' : Int32) (h : zf_SR_readAll sn sl sf dn dl df pn pl pf ra rr = some (dn', df', ra', rr')) : CoV l zy_SR_readAll zw_SR_readAll { frames := 4, cells := 0, slots := 0, locals := 93 } D cB cI cJ [.ref ea] [(sa, .inr (4, [.ref sb, .int sn])), (sb, .inl (cB, sl, .inl sf)), (da, .inr (4, [.ref db, .int dn])), (db, .inl (cB, dl, .inl df)), (pa, .inr (4, [.ref pb, .int pn])), (pb, .inl (cB, pl, .inl pf)), (ha, .inr (2, [.ref pa, .ref da])), (ea, .inr (5, [.ref sa, .ref da, .ref ha, .int ra, .int rr]))] [(sa, .inr (4, [.ref sb, .int sn])), (sb, .inl (cB, sl, .inl sf)), (da, .inr (4, [.ref db, .int dn'])), (db, .inl (cB, dl, .inl df')), (pa, .inr (4, [.ref pb, .int pn])), (pb, .inl (cB, pl, .inl pf)), (ha, .inr (2, [.ref pa, .ref da])), (ea, .inr (5, [.ref sa, .ref da, .ref ha, .int ra', .int rr']))] := by
  unfold zf_SR_readAll at h
  refine CoV.ofG (cc := zc_SR_readAll) (maxL := 3) (own := RX6) (by decide) rfl rfl rfl trivial (Nat.le_of_ble_eq_true rfl) (L0 := [(0, .ref ea)]) rfl (fun k F E => ?_)
  refine G_iconst (v := (1 : Int32)) F zd_SR_readAll_0 (by decide) ?_
  refine G_istore_n F zd_SR_readAll_1 rfl (by decide) (L' := [(1, .int (1 : Int32)), (0, .ref ea)]) rfl ?_
  refine G_iconst (v := (0 : Int32)) F zd_SR_readAll_2 (by decide) ?_
  refine G_istore_n F zd_SR_readAll_3 rfl (by decide) (L' := [(2, .int (0 : Int32)), (1, .int (1 : Int32)), (0, .ref ea)]) rfl ?_
  obtain ⟨x13, x14, x15, x16, x17, x18, hl4, h⟩ := bc6_s h
  refine G_lv [2, 1, 0] rfl (zl_SR_readAll_4 F sn sl sf dl pn pl pf sa sb da db pa pb ha ea 1000 (1 : Int32) (0 : Int32) dn df ra rr x13 x14 x15 x16 x17 x18 hl4 ?_)
  obtain ⟨q1, q2, q3, q4⟩ := inj4 h
  subst q1
  subst q2
  subst q3
  subst q4
  exact E 30 _ zd_SR_readAll_30

set_option maxHeartbeats 4000000 in
set_option maxRecDepth 100000 in
theorem zk_D_refuseIf_E (l : Launch) (D : va_G) (cB cI cJ : ClassId) (sa : Nat) (sb : Nat) (da : Nat) (db : Nat) (pa : Nat) (pb : Nat) (ha : Nat) (ea : Nat) (sn : Int32) (sl : Nat) (sf : Nat → Int32) (dn : Int32) (dl : Nat) (df : Nat → Int32) (pn : Int32) (pl : Nat) (pf : Nat → Int32) (ra : Int32) (rr : Int32) (rp : Int32) (i1 : Int32) (i2 : Int32) (rr' : Int32) (h : zf_D_refuseIf rr i1 i2 = some rr') : CoV l zy_D_refuseIf zw_D_refuseIf { frames := 0, cells := 0, slots := 0, locals := 0 } D cB cI cJ [.ref ea, .int i1, .int i2] [(sa, .inr (4, [.ref sb, .int sn])), (sb, .inl (cB, sl, .inl sf)), (da, .inr (4, [.ref db, .int dn])), (db, .inl (cB, dl, .inl df)), (pa, .inr (4, [.ref pb, .int pn])), (pb, .inl (cB, pl, .inl pf)), (ha, .inr (2, [.ref pa, .ref da])), (ea, .inr (0, [.ref sa, .ref da, .ref ha, .int ra, .int rr, .int rp]))] [(sa, .inr (4, [.ref sb, .int sn])), (sb, .inl (cB, sl, .inl sf)), (da, .inr (4, [.ref db, .int dn])), (db, .inl (cB, dl, .inl df)), (pa, .inr (4, [.ref pb, .int pn])), (pb, .inl (cB, pl, .inl pf)), (ha, .inr (2, [.ref pa, .ref da])), (ea, .inr (0, [.ref sa, .ref da, .ref ha, .int ra, .int rr', .int rp]))] := by
  unfold zf_D_refuseIf at h
  refine CoV.ofG (cc := zc_D_refuseIf) (maxL := 3) (own := RX4) (by decide) rfl rfl rfl trivial (Nat.le_of_ble_eq_true rfl) (L0 := [(0, .ref ea), (1, .int i1), (2, .int i2)]) rfl (fun k F E => ?_)
  refine G_iload_n F zd_D_refuseIf_0 rfl (j := 1) rfl ?_
  refine G_if_eq F zd_D_refuseIf_1 (tgt := 17) rfl (fun h0 => ?_) (fun h0 => ?_)
  · have h := iP h h0
    have q1 := Option.some.inj h
    subst q1
    exact E 17 _ zd_D_refuseIf_17
  · have h := iN h h0
    refine G_aload_n F zd_D_refuseIf_4 rfl (j := 0) rfl ?_
    refine G_get F fa_D_29_ER (q := 7) zd_D_refuseIf_5 rfl rfl ?_
    refine G_iconst (v := (-1 : Int32)) F zd_D_refuseIf_8 (by decide) ?_
    refine G_icmp_ne F zd_D_refuseIf_9 (tgt := 17) rfl (fun h0 => ?_) (fun h0 => ?_)
    · have h := iN h h0
      have q1 := Option.some.inj h
      subst q1
      exact E 17 _ zd_D_refuseIf_17
    · have h := iP h h0
      refine G_aload_n F zd_D_refuseIf_12 rfl (j := 0) rfl ?_
      refine G_iload_n F zd_D_refuseIf_13 rfl (j := 2) rfl ?_
      refine G_put F fp_D_29_ER (q := 7) zd_D_refuseIf_14 rfl (Nat.le_of_ble_eq_true rfl) (ws' := [(sa, .inr (4, [.ref sb, .int sn])), (sb, .inl (cB, sl, .inl sf)), (da, .inr (4, [.ref db, .int dn])), (db, .inl (cB, dl, .inl df)), (pa, .inr (4, [.ref pb, .int pn])), (pb, .inl (cB, pl, .inl pf)), (ha, .inr (2, [.ref pa, .ref da])), (ea, .inr (0, [.ref sa, .ref da, .ref ha, .int ra, .int i2, .int rp]))]) rfl ?_
      have q1 := Option.some.inj h
      subst q1
      exact E 17 _ zd_D_refuseIf_17

set_option maxHeartbeats 4000000 in
set_option maxRecDepth 100000 in
theorem zk_D_take_E (l : Launch) (D : va_G) (cB cI cJ : ClassId) (sa : Nat) (sb : Nat) (da : Nat) (db : Nat) (pa : Nat) (pb : Nat) (ha : Nat) (ea : Nat) (sn : Int32) (sl : Nat) (sf : Nat → Int32) (dn : Int32) (dl : Nat) (df : Nat → Int32) (pn : Int32) (pl : Nat) (pf : Nat → Int32) (ra : Int32) (rr : Int32) (rp : Int32) (r : Int32) (ra' : Int32) (rr' : Int32) (h : zf_D_take sn sl sf ra rr = some (r, ra', rr')) : CoI l zy_D_take zw_D_take { frames := 1, cells := 0, slots := 0, locals := 22 } D cB cI cJ [.ref ea] [(sa, .inr (4, [.ref sb, .int sn])), (sb, .inl (cB, sl, .inl sf)), (da, .inr (4, [.ref db, .int dn])), (db, .inl (cB, dl, .inl df)), (pa, .inr (4, [.ref pb, .int pn])), (pb, .inl (cB, pl, .inl pf)), (ha, .inr (2, [.ref pa, .ref da])), (ea, .inr (0, [.ref sa, .ref da, .ref ha, .int ra, .int rr, .int rp]))] r [(sa, .inr (4, [.ref sb, .int sn])), (sb, .inl (cB, sl, .inl sf)), (da, .inr (4, [.ref db, .int dn])), (db, .inl (cB, dl, .inl df)), (pa, .inr (4, [.ref pb, .int pn])), (pb, .inl (cB, pl, .inl pf)), (ha, .inr (2, [.ref pa, .ref da])), (ea, .inr (0, [.ref sa, .ref da, .ref ha, .int ra', .int rr', .int rp]))] := by
  unfold zf_D_take at h
  refine CoI.ofG (cc := zc_D_take) (maxL := 2) (own := RX4) (by decide) rfl rfl rfl trivial (Nat.le_of_ble_eq_true rfl) (L0 := [(0, .ref ea)]) rfl (fun k F E => ?_)
  refine G_aload_n F zd_D_take_0 rfl (j := 0) rfl ?_
  refine G_aload_n F zd_D_take_1 rfl (j := 0) rfl ?_
  refine G_get F fa_D_25_ER (q := 7) zd_D_take_2 rfl rfl ?_
  refine G_aload_n F zd_D_take_5 rfl (j := 0) rfl ?_
  refine G_get F fa_D_7_ER (q := 7) zd_D_take_6 rfl rfl ?_
  refine G_get F fa_D_37_R (q := 0) zd_D_take_9 rfl rfl ?_
  obtain ⟨u1, hj20, h⟩ := bc1_s h
  have X20 : G D 2 k 0 0 20 [(0, .ref ea)] [.int u1, .ref ea] [(sa, .inr (4, [.ref sb, .int sn])), (sb, .inl (cB, sl, .inl sf)), (da, .inr (4, [.ref db, .int dn])), (db, .inl (cB, dl, .inl df)), (pa, .inr (4, [.ref pb, .int pn])), (pb, .inl (cB, pl, .inl pf)), (ha, .inr (2, [.ref pa, .ref da])), (ea, .inr (0, [.ref sa, .ref da, .ref ha, .int ra, .int rr, .int rp]))] := by
    refine G_aload_n F zd_D_take_20 rfl (j := 0) rfl ?_
    refine G_get F fa_D_7_ER (q := 7) zd_D_take_21 rfl rfl ?_
    refine G_get F fa_D_37_R (q := 0) zd_D_take_24 rfl rfl ?_
    obtain ⟨v2, hc27, h⟩ := bc1_s h
    refine G_callvU F (zk_D_refuseIf_E l D cB cI cJ sa sb da db pa pb ha ea sn sl sf dn dl df pn pl pf ra rr rp u1 sn v2 hc27) (rest := []) [0, 1, 2, 3, 4, 5, 6, 7] rfl rfl rfl (ws' := [(sa, .inr (4, [.ref sb, .int sn])), (sb, .inl (cB, sl, .inl sf)), (da, .inr (4, [.ref db, .int dn])), (db, .inl (cB, dl, .inl df)), (pa, .inr (4, [.ref pb, .int pn])), (pb, .inl (cB, pl, .inl pf)), (ha, .inr (2, [.ref pa, .ref da])), (ea, .inr (0, [.ref sa, .ref da, .ref ha, .int ra, .int v2, .int rp]))]) rfl (q0 := 7) rfl (x := ⟨"PressSuite$Reader", "refuseIf", "(ZI)V"⟩) cv_D_40_ER rfl rfl ⟨Nat.le_of_ble_eq_true rfl, Nat.le_of_ble_eq_true rfl⟩ hf0 rfl (Nat.le_of_ble_eq_true rfl) zd_D_take_27 rfl ?_
    refine G_aload_n F zd_D_take_30 rfl (j := 0) rfl ?_
    refine G_get F fa_D_29_ER (q := 7) zd_D_take_31 rfl rfl ?_
    refine G_iconst (v := (-1 : Int32)) F zd_D_take_34 (by decide) ?_
    refine G_icmp_eq F zd_D_take_35 (tgt := 40) rfl (fun h0 => ?_) (fun h0 => ?_)
    · have h := iP h h0
      refine G_aload_n F zd_D_take_40 rfl (j := 0) rfl ?_
      refine G_get F fa_D_7_ER (q := 7) zd_D_take_41 rfl rfl ?_
      refine G_aload_n F zd_D_take_44 rfl (j := 0) rfl ?_
      refine G_get F fa_D_25_ER (q := 7) zd_D_take_45 rfl rfl ?_
      obtain ⟨v3, hc48, h⟩ := bc1_s h
      refine G_calliV0 F (zk_R_byteAt l D cB cI cJ sa sb sn sl sf ra v3 hc48) (rest := []) [0, 1] rfl rfl (q0 := 0) rfl cv_D_44_R rfl rfl ⟨Nat.le_of_ble_eq_true rfl, Nat.le_of_ble_eq_true rfl⟩ hf0 rfl (Nat.le_of_ble_eq_true rfl) zd_D_take_48 rfl ?_
      refine G_istore_n F zd_D_take_51 rfl (by decide) (L' := [(1, .int v3), (0, .ref ea)]) rfl ?_
      refine G_aload_n F zd_D_take_52 rfl (j := 1) rfl ?_
      refine G_dup F zd_D_take_53 rfl ?_
      refine G_get F fa_D_25_ER (q := 7) zd_D_take_54 rfl rfl ?_
      refine G_iconst (v := (1 : Int32)) F zd_D_take_57 (by decide) ?_
      refine G_iadd F zd_D_take_58 ?_
      obtain ⟨v4, ev4, h⟩ := bnd_s h
      refine G_topi ev4 ?_
      refine G_put F fp_D_25_ER (q := 7) zd_D_take_59 rfl (Nat.le_of_ble_eq_true rfl) (ws' := [(sa, .inr (4, [.ref sb, .int sn])), (sb, .inl (cB, sl, .inl sf)), (da, .inr (4, [.ref db, .int dn])), (db, .inl (cB, dl, .inl df)), (pa, .inr (4, [.ref pb, .int pn])), (pb, .inl (cB, pl, .inl pf)), (ha, .inr (2, [.ref pa, .ref da])), (ea, .inr (0, [.ref sa, .ref da, .ref ha, .int v4, .int v2, .int rp]))]) rfl ?_
      refine G_iload_n F zd_D_take_62 rfl (j := 0) rfl ?_
      obtain ⟨q1, q2, q3⟩ := inj3 h
      subst q1
      subst q2
      subst q3
      exact E 63 _ zd_D_take_63
    · have h := iN h h0
      refine G_iconst (v := (0 : Int32)) F zd_D_take_38 (by decide) ?_
      obtain ⟨q1, q2, q3⟩ := inj3 h
      subst q1
      subst q2
      subst q3
      exact E 39 _ zd_D_take_39
  have h := hj20
  refine G_icmp_lt F zd_D_take_12 (tgt := 19) rfl (fun h0 => ?_) (fun h0 => ?_)
  · have h := iP h h0
    refine G_iconst (v := (0 : Int32)) F zd_D_take_19 (by decide) ?_
    have q1 := Option.some.inj h
    subst q1
    exact G_lv [0] rfl X20
  · have h := iN h h0
    refine G_iconst (v := (1 : Int32)) F zd_D_take_15 (by decide) ?_
    refine G_goto F zd_D_take_16 (tgt := 20) rfl ?_
    have q1 := Option.some.inj h
    subst q1
    exact G_lv [0] rfl X20

set_option maxHeartbeats 4000000 in
set_option maxRecDepth 100000 in
theorem zk_ER_takeSize (l : Launch) (D : va_G) (cB cI cJ : ClassId) (sa : Nat) (sb : Nat) (da : Nat) (db : Nat) (pa : Nat) (pb : Nat) (ha : Nat) (ea : Nat) (sn : Int32) (sl : Nat) (sf : Nat → Int32) (dn : Int32) (dl : Nat) (df : Nat → Int32) (pn : Int32) (pl : Nat) (pf : Nat → Int32) (ra : Int32) (rr : Int32) (rp : Int32) (r : Int32) (ra' : Int32) (rr' : Int32) (h : zf_ER_takeSize sn sl sf ra rr = some (r, ra', rr')) : CoI l zy_ER_takeSize zw_ER_takeSize { frames := 2, cells := 0, slots := 0, locals := 43 } D cB cI cJ [.ref ea] [(sa, .inr (4, [.ref sb, .int sn])), (sb, .inl (cB, sl, .inl sf)), (da, .inr (4, [.ref db, .int dn])), (db, .inl (cB, dl, .inl df)), (pa, .inr (4, [.ref pb, .int pn])), (pb, .inl (cB, pl, .inl pf)), (ha, .inr (2, [.ref pa, .ref da])), (ea, .inr (0, [.ref sa, .ref da, .ref ha, .int ra, .int rr, .int rp]))] r [(sa, .inr (4, [.ref sb, .int sn])), (sb, .inl (cB, sl, .inl sf)), (da, .inr (4, [.ref db, .int dn])), (db, .inl (cB, dl, .inl df)), (pa, .inr (4, [.ref pb, .int pn])), (pb, .inl (cB, pl, .inl pf)), (ha, .inr (2, [.ref pa, .ref da])), (ea, .inr (0, [.ref sa, .ref da, .ref ha, .int ra', .int rr', .int rp]))] := by
  unfold zf_ER_takeSize at h
  refine CoI.ofG (cc := zc_ER_takeSize) (maxL := 4) (own := RX0) (by decide) rfl rfl rfl trivial (Nat.le_of_ble_eq_true rfl) (L0 := [(0, .ref ea)]) rfl (fun k F E => ?_)
  refine G_aload_n F zd_ER_takeSize_0 rfl (j := 0) rfl ?_
  obtain ⟨v1, v2, v3, hc1, h⟩ := bc3_s h
  refine G_calliU F (zk_D_take_E l D cB cI cJ sa sb da db pa pb ha ea sn sl sf dn dl df pn pl pf ra rr rp v1 v2 v3 hc1) (rest := []) [0, 1, 2, 3, 4, 5, 6, 7] rfl rfl rfl (ws' := [(sa, .inr (4, [.ref sb, .int sn])), (sb, .inl (cB, sl, .inl sf)), (da, .inr (4, [.ref db, .int dn])), (db, .inl (cB, dl, .inl df)), (pa, .inr (4, [.ref pb, .int pn])), (pb, .inl (cB, pl, .inl pf)), (ha, .inr (2, [.ref pa, .ref da])), (ea, .inr (0, [.ref sa, .ref da, .ref ha, .int v2, .int v3, .int rp]))]) rfl (q0 := 7) rfl (x := ⟨"PressSuite$ElementReader", "take", "()I"⟩) cv_ER_46_ER rfl rfl ⟨Nat.le_of_ble_eq_true rfl, Nat.le_of_ble_eq_true rfl⟩ hf0 rfl (Nat.le_of_ble_eq_true rfl) zd_ER_takeSize_1 rfl ?_
  refine G_istore_n F zd_ER_takeSize_4 rfl (by decide) (L' := [(1, .int v1), (0, .ref ea)]) rfl ?_
  refine G_iload_n F zd_ER_takeSize_5 rfl (j := 0) rfl ?_
  refine G_bipush (v := (127 : Int32)) F zd_ER_takeSize_6 (by decide) ?_
  refine G_icmp_gt F zd_ER_takeSize_8 (tgt := 13) rfl (fun h0 => ?_) (fun h0 => ?_)
  · have h := iP h h0
    refine G_aload_n F zd_ER_takeSize_13 rfl (j := 1) rfl ?_
    obtain ⟨v4, v5, v6, hc14, h⟩ := bc3_s h
    refine G_calliU F (zk_D_take_E l D cB cI cJ sa sb da db pa pb ha ea sn sl sf dn dl df pn pl pf v2 v3 rp v4 v5 v6 hc14) (rest := []) [0, 1, 2, 3, 4, 5, 6, 7] rfl rfl rfl (ws' := [(sa, .inr (4, [.ref sb, .int sn])), (sb, .inl (cB, sl, .inl sf)), (da, .inr (4, [.ref db, .int dn])), (db, .inl (cB, dl, .inl df)), (pa, .inr (4, [.ref pb, .int pn])), (pb, .inl (cB, pl, .inl pf)), (ha, .inr (2, [.ref pa, .ref da])), (ea, .inr (0, [.ref sa, .ref da, .ref ha, .int v5, .int v6, .int rp]))]) rfl (q0 := 7) rfl (x := ⟨"PressSuite$ElementReader", "take", "()I"⟩) cv_ER_46_ER rfl rfl ⟨Nat.le_of_ble_eq_true rfl, Nat.le_of_ble_eq_true rfl⟩ hf0 rfl (Nat.le_of_ble_eq_true rfl) zd_ER_takeSize_14 rfl ?_
    refine G_istore_n F zd_ER_takeSize_17 rfl (by decide) (L' := [(2, .int v4), (1, .int v1), (0, .ref ea)]) rfl ?_
    refine G_aload_n F zd_ER_takeSize_18 rfl (j := 2) rfl ?_
    refine G_iload_n F zd_ER_takeSize_19 rfl (j := 0) rfl ?_
    refine G_bipush (v := (127 : Int32)) F zd_ER_takeSize_20 (by decide) ?_
    obtain ⟨u7, hj30, h⟩ := bc1_s h
    have X30 : G D 4 k 0 0 30 [(0, .ref ea), (1, .int v1), (2, .int v4)] [.int u7, .ref ea] [(sa, .inr (4, [.ref sb, .int sn])), (sb, .inl (cB, sl, .inl sf)), (da, .inr (4, [.ref db, .int dn])), (db, .inl (cB, dl, .inl df)), (pa, .inr (4, [.ref pb, .int pn])), (pb, .inl (cB, pl, .inl pf)), (ha, .inr (2, [.ref pa, .ref da])), (ea, .inr (0, [.ref sa, .ref da, .ref ha, .int v5, .int v6, .int rp]))] := by
      refine G_aload_n F zd_ER_takeSize_30 rfl (j := 0) rfl ?_
      refine G_get F fa_ER_49_ER (q := 7) zd_ER_takeSize_31 rfl rfl ?_
      refine G_iconst (v := (1 : Int32)) F zd_ER_takeSize_34 (by decide) ?_
      refine G_isub F zd_ER_takeSize_35 ?_
      obtain ⟨v8, hc36, h⟩ := bc1_s h
      refine G_callvU F (zk_D_refuseIf_E l D cB cI cJ sa sb da db pa pb ha ea sn sl sf dn dl df pn pl pf v5 v6 rp u7 (v5 - (1 : Int32)) v8 hc36) (rest := []) [0, 1, 2, 3, 4, 5, 6, 7] rfl rfl rfl (ws' := [(sa, .inr (4, [.ref sb, .int sn])), (sb, .inl (cB, sl, .inl sf)), (da, .inr (4, [.ref db, .int dn])), (db, .inl (cB, dl, .inl df)), (pa, .inr (4, [.ref pb, .int pn])), (pb, .inl (cB, pl, .inl pf)), (ha, .inr (2, [.ref pa, .ref da])), (ea, .inr (0, [.ref sa, .ref da, .ref ha, .int v5, .int v8, .int rp]))]) rfl (q0 := 7) rfl (x := ⟨"PressSuite$ElementReader", "refuseIf", "(ZI)V"⟩) cv_ER_42_ER rfl rfl ⟨Nat.le_of_ble_eq_true rfl, Nat.le_of_ble_eq_true rfl⟩ hf0 rfl (Nat.le_of_ble_eq_true rfl) zd_ER_takeSize_36 rfl ?_
      refine G_iload_n F zd_ER_takeSize_39 rfl (j := 1) rfl ?_
      refine G_bipush (v := (127 : Int32)) F zd_ER_takeSize_40 (by decide) ?_
      refine G_iand F zd_ER_takeSize_42 ?_
      refine G_iload_n F zd_ER_takeSize_43 rfl (j := 2) rfl ?_
      refine G_bipush (v := (7 : Int32)) F zd_ER_takeSize_44 (by decide) ?_
      refine G_ishl F zd_ER_takeSize_46 ?_
      refine G_ior F zd_ER_takeSize_47 ?_
      obtain ⟨v9, ev9, h⟩ := bnd_s h
      refine G_topi ev9 ?_
      refine G_istore_n F zd_ER_takeSize_48 rfl (by decide) (L' := [(3, .int v9), (0, .ref ea), (1, .int v1), (2, .int v4)]) rfl ?_
      refine G_aload_n F zd_ER_takeSize_49 rfl (j := 1) rfl ?_
      refine G_iload_n F zd_ER_takeSize_50 rfl (j := 0) rfl ?_
      refine G_sipush (v := (160 : Int32)) F zd_ER_takeSize_51 (by decide) ?_
      obtain ⟨u10, hj62, h⟩ := bc1_s h
      have X62 : G D 4 k 0 0 62 [(0, .ref ea), (1, .int v1), (2, .int v4), (3, .int v9)] [.int u10, .ref ea] [(sa, .inr (4, [.ref sb, .int sn])), (sb, .inl (cB, sl, .inl sf)), (da, .inr (4, [.ref db, .int dn])), (db, .inl (cB, dl, .inl df)), (pa, .inr (4, [.ref pb, .int pn])), (pb, .inl (cB, pl, .inl pf)), (ha, .inr (2, [.ref pa, .ref da])), (ea, .inr (0, [.ref sa, .ref da, .ref ha, .int v5, .int v8, .int rp]))] := by
        refine G_aload_n F zd_ER_takeSize_62 rfl (j := 0) rfl ?_
        refine G_get F fa_ER_49_ER (q := 7) zd_ER_takeSize_63 rfl rfl ?_
        refine G_iconst (v := (1 : Int32)) F zd_ER_takeSize_66 (by decide) ?_
        refine G_isub F zd_ER_takeSize_67 ?_
        obtain ⟨v11, hc68, h⟩ := bc1_s h
        refine G_callvU F (zk_D_refuseIf_E l D cB cI cJ sa sb da db pa pb ha ea sn sl sf dn dl df pn pl pf v5 v8 rp u10 (v5 - (1 : Int32)) v11 hc68) (rest := []) [0, 1, 2, 3, 4, 5, 6, 7] rfl rfl rfl (ws' := [(sa, .inr (4, [.ref sb, .int sn])), (sb, .inl (cB, sl, .inl sf)), (da, .inr (4, [.ref db, .int dn])), (db, .inl (cB, dl, .inl df)), (pa, .inr (4, [.ref pb, .int pn])), (pb, .inl (cB, pl, .inl pf)), (ha, .inr (2, [.ref pa, .ref da])), (ea, .inr (0, [.ref sa, .ref da, .ref ha, .int v5, .int v11, .int rp]))]) rfl (q0 := 7) rfl (x := ⟨"PressSuite$ElementReader", "refuseIf", "(ZI)V"⟩) cv_ER_42_ER rfl rfl ⟨Nat.le_of_ble_eq_true rfl, Nat.le_of_ble_eq_true rfl⟩ hf0 rfl (Nat.le_of_ble_eq_true rfl) zd_ER_takeSize_68 rfl ?_
        refine G_iload_n F zd_ER_takeSize_71 rfl (j := 3) rfl ?_
        obtain ⟨q1, q2, q3⟩ := inj3 h
        subst q1
        subst q2
        subst q3
        exact E 72 _ zd_ER_takeSize_72
      have h := hj62
      refine G_icmp_le F zd_ER_takeSize_54 (tgt := 61) rfl (fun h0 => ?_) (fun h0 => ?_)
      · have h := iP h h0
        refine G_iconst (v := (0 : Int32)) F zd_ER_takeSize_61 (by decide) ?_
        have q1 := Option.some.inj h
        subst q1
        exact G_lv [1, 2, 3, 0] rfl X62
      · have h := iN h h0
        refine G_iconst (v := (1 : Int32)) F zd_ER_takeSize_57 (by decide) ?_
        refine G_goto F zd_ER_takeSize_58 (tgt := 62) rfl ?_
        have q1 := Option.some.inj h
        subst q1
        exact G_lv [1, 2, 3, 0] rfl X62
    have h := hj30
    refine G_icmp_le F zd_ER_takeSize_22 (tgt := 29) rfl (fun h0 => ?_) (fun h0 => ?_)
    · have h := iP h h0
      refine G_iconst (v := (0 : Int32)) F zd_ER_takeSize_29 (by decide) ?_
      have q1 := Option.some.inj h
      subst q1
      exact G_lv [2, 1, 0] rfl X30
    · have h := iN h h0
      refine G_iconst (v := (1 : Int32)) F zd_ER_takeSize_25 (by decide) ?_
      refine G_goto F zd_ER_takeSize_26 (tgt := 30) rfl ?_
      have q1 := Option.some.inj h
      subst q1
      exact G_lv [2, 1, 0] rfl X30
  · have h := iN h h0
    refine G_iload_n F zd_ER_takeSize_11 rfl (j := 0) rfl ?_
    obtain ⟨q1, q2, q3⟩ := inj3 h
    subst q1
    subst q2
    subst q3
    exact E 12 _ zd_ER_takeSize_12

set_option maxHeartbeats 4000000 in
set_option maxRecDepth 100000 in
theorem zk_D_atEnd_E (l : Launch) (D : va_G) (cB cI cJ : ClassId) (sa : Nat) (sb : Nat) (da : Nat) (db : Nat) (pa : Nat) (pb : Nat) (ha : Nat) (ea : Nat) (sn : Int32) (sl : Nat) (sf : Nat → Int32) (dn : Int32) (dl : Nat) (df : Nat → Int32) (pn : Int32) (pl : Nat) (pf : Nat → Int32) (ra : Int32) (rr : Int32) (rp : Int32) (r : Int32) (h : zf_D_atEnd sn ra = some r) : CoI l zy_D_atEnd zw_D_atEnd { frames := 0, cells := 0, slots := 0, locals := 0 } D cB cI cJ [.ref ea] [(sa, .inr (4, [.ref sb, .int sn])), (sb, .inl (cB, sl, .inl sf)), (da, .inr (4, [.ref db, .int dn])), (db, .inl (cB, dl, .inl df)), (pa, .inr (4, [.ref pb, .int pn])), (pb, .inl (cB, pl, .inl pf)), (ha, .inr (2, [.ref pa, .ref da])), (ea, .inr (0, [.ref sa, .ref da, .ref ha, .int ra, .int rr, .int rp]))] r [(sa, .inr (4, [.ref sb, .int sn])), (sb, .inl (cB, sl, .inl sf)), (da, .inr (4, [.ref db, .int dn])), (db, .inl (cB, dl, .inl df)), (pa, .inr (4, [.ref pb, .int pn])), (pb, .inl (cB, pl, .inl pf)), (ha, .inr (2, [.ref pa, .ref da])), (ea, .inr (0, [.ref sa, .ref da, .ref ha, .int ra, .int rr, .int rp]))] := by
  unfold zf_D_atEnd at h
  refine CoZ.ofG (cc := zc_D_atEnd) (maxL := 1) (own := RX4) (by decide) rfl rfl rfl trivial (Nat.le_of_ble_eq_true rfl) (L0 := [(0, .ref ea)]) rfl (fun k F E => ?_)
  refine G_aload_n F zd_D_atEnd_0 rfl (j := 0) rfl ?_
  refine G_get F fa_D_25_ER (q := 7) zd_D_atEnd_1 rfl rfl ?_
  refine G_aload_n F zd_D_atEnd_4 rfl (j := 0) rfl ?_
  refine G_get F fa_D_7_ER (q := 7) zd_D_atEnd_5 rfl rfl ?_
  refine G_get F fa_D_37_R (q := 0) zd_D_atEnd_8 rfl rfl ?_
  refine G_icmp_lt F zd_D_atEnd_11 (tgt := 18) rfl (fun h0 => ?_) (fun h0 => ?_)
  · have h := iP h h0
    refine G_iconst (v := (0 : Int32)) F zd_D_atEnd_18 (by decide) ?_
    have q1 := Option.some.inj h
    subst q1
    exact E 19 _ zd_D_atEnd_19 (by decide)
  · have h := iN h h0
    refine G_iconst (v := (1 : Int32)) F zd_D_atEnd_14 (by decide) ?_
    refine G_goto F zd_D_atEnd_15 (tgt := 19) rfl ?_
    have q1 := Option.some.inj h
    subst q1
    exact E 19 _ zd_D_atEnd_19 (by decide)

set_option maxHeartbeats 4000000 in
set_option maxRecDepth 100000 in
theorem zk_D_refused_E (l : Launch) (D : va_G) (cB cI cJ : ClassId) (sa : Nat) (sb : Nat) (da : Nat) (db : Nat) (pa : Nat) (pb : Nat) (ha : Nat) (ea : Nat) (sn : Int32) (sl : Nat) (sf : Nat → Int32) (dn : Int32) (dl : Nat) (df : Nat → Int32) (pn : Int32) (pl : Nat) (pf : Nat → Int32) (ra : Int32) (rr : Int32) (rp : Int32) (r : Int32) (h : zf_D_refused rr = some r) : CoI l zy_D_refused zw_D_refused { frames := 0, cells := 0, slots := 0, locals := 0 } D cB cI cJ [.ref ea] [(sa, .inr (4, [.ref sb, .int sn])), (sb, .inl (cB, sl, .inl sf)), (da, .inr (4, [.ref db, .int dn])), (db, .inl (cB, dl, .inl df)), (pa, .inr (4, [.ref pb, .int pn])), (pb, .inl (cB, pl, .inl pf)), (ha, .inr (2, [.ref pa, .ref da])), (ea, .inr (0, [.ref sa, .ref da, .ref ha, .int ra, .int rr, .int rp]))] r [(sa, .inr (4, [.ref sb, .int sn])), (sb, .inl (cB, sl, .inl sf)), (da, .inr (4, [.ref db, .int dn])), (db, .inl (cB, dl, .inl df)), (pa, .inr (4, [.ref pb, .int pn])), (pb, .inl (cB, pl, .inl pf)), (ha, .inr (2, [.ref pa, .ref da])), (ea, .inr (0, [.ref sa, .ref da, .ref ha, .int ra, .int rr, .int rp]))] := by
  unfold zf_D_refused at h
  refine CoZ.ofG (cc := zc_D_refused) (maxL := 1) (own := RX4) (by decide) rfl rfl rfl trivial (Nat.le_of_ble_eq_true rfl) (L0 := [(0, .ref ea)]) rfl (fun k F E => ?_)
  refine G_aload_n F zd_D_refused_0 rfl (j := 0) rfl ?_
  refine G_get F fa_D_29_ER (q := 7) zd_D_refused_1 rfl rfl ?_
  refine G_iconst (v := (-1 : Int32)) F zd_D_refused_4 (by decide) ?_
  refine G_icmp_eq F zd_D_refused_5 (tgt := 12) rfl (fun h0 => ?_) (fun h0 => ?_)
  · have h := iP h h0
    refine G_iconst (v := (0 : Int32)) F zd_D_refused_12 (by decide) ?_
    have q1 := Option.some.inj h
    subst q1
    exact E 13 _ zd_D_refused_13 (by decide)
  · have h := iN h h0
    refine G_iconst (v := (1 : Int32)) F zd_D_refused_8 (by decide) ?_
    refine G_goto F zd_D_refused_9 (tgt := 13) rfl ?_
    have q1 := Option.some.inj h
    subst q1
    exact E 13 _ zd_D_refused_13 (by decide)

set_option maxHeartbeats 4000000 in
set_option maxRecDepth 100000 in
theorem zk_D_requireRoom_E (l : Launch) (D : va_G) (cB cI cJ : ClassId) (sa : Nat) (sb : Nat) (da : Nat) (db : Nat) (pa : Nat) (pb : Nat) (ha : Nat) (ea : Nat) (sn : Int32) (sl : Nat) (sf : Nat → Int32) (dn : Int32) (dl : Nat) (df : Nat → Int32) (pn : Int32) (pl : Nat) (pf : Nat → Int32) (ra : Int32) (rr : Int32) (rp : Int32) (i1 : Int32) (i2 : Int32) (i3 : Int32) (rr' : Int32) (h : zf_D_requireRoom dn rr i1 i2 i3 = some rr') : CoV l zy_D_requireRoom zw_D_requireRoom { frames := 1, cells := 0, slots := 0, locals := 22 } D cB cI cJ [.ref ea, .int i1, .int i2, .int i3] [(sa, .inr (4, [.ref sb, .int sn])), (sb, .inl (cB, sl, .inl sf)), (da, .inr (4, [.ref db, .int dn])), (db, .inl (cB, dl, .inl df)), (pa, .inr (4, [.ref pb, .int pn])), (pb, .inl (cB, pl, .inl pf)), (ha, .inr (2, [.ref pa, .ref da])), (ea, .inr (0, [.ref sa, .ref da, .ref ha, .int ra, .int rr, .int rp]))] [(sa, .inr (4, [.ref sb, .int sn])), (sb, .inl (cB, sl, .inl sf)), (da, .inr (4, [.ref db, .int dn])), (db, .inl (cB, dl, .inl df)), (pa, .inr (4, [.ref pb, .int pn])), (pb, .inl (cB, pl, .inl pf)), (ha, .inr (2, [.ref pa, .ref da])), (ea, .inr (0, [.ref sa, .ref da, .ref ha, .int ra, .int rr', .int rp]))] := by
  unfold zf_D_requireRoom at h
  refine CoV.ofG (cc := zc_D_requireRoom) (maxL := 4) (own := RX4) (by decide) rfl rfl rfl trivial (Nat.le_of_ble_eq_true rfl) (L0 := [(0, .ref ea), (1, .int i1), (2, .int i2), (3, .int i3)]) rfl (fun k F E => ?_)
  refine G_aload_n F zd_D_requireRoom_0 rfl (j := 0) rfl ?_
  refine G_aload_n F zd_D_requireRoom_1 rfl (j := 0) rfl ?_
  refine G_get F fa_D_13_ER (q := 7) zd_D_requireRoom_2 rfl rfl ?_
  refine G_get F fa_D_37_R (q := 2) zd_D_requireRoom_5 rfl rfl ?_
  refine G_iload_n F zd_D_requireRoom_8 rfl (j := 1) rfl ?_
  refine G_iadd F zd_D_requireRoom_9 ?_
  refine G_iload_n F zd_D_requireRoom_10 rfl (j := 2) rfl ?_
  obtain ⟨u1, hj19, h⟩ := bc1_s h
  have X19 : G D 4 k 0 0 19 [(0, .ref ea), (1, .int i1), (2, .int i2), (3, .int i3)] [.int u1, .ref ea] [(sa, .inr (4, [.ref sb, .int sn])), (sb, .inl (cB, sl, .inl sf)), (da, .inr (4, [.ref db, .int dn])), (db, .inl (cB, dl, .inl df)), (pa, .inr (4, [.ref pb, .int pn])), (pb, .inl (cB, pl, .inl pf)), (ha, .inr (2, [.ref pa, .ref da])), (ea, .inr (0, [.ref sa, .ref da, .ref ha, .int ra, .int rr, .int rp]))] := by
    refine G_iload_n F zd_D_requireRoom_19 rfl (j := 3) rfl ?_
    obtain ⟨v2, hc20, h⟩ := bc1_s h
    refine G_callvU F (zk_D_refuseIf_E l D cB cI cJ sa sb da db pa pb ha ea sn sl sf dn dl df pn pl pf ra rr rp u1 i3 v2 hc20) (rest := []) [0, 1, 2, 3, 4, 5, 6, 7] rfl rfl rfl (ws' := [(sa, .inr (4, [.ref sb, .int sn])), (sb, .inl (cB, sl, .inl sf)), (da, .inr (4, [.ref db, .int dn])), (db, .inl (cB, dl, .inl df)), (pa, .inr (4, [.ref pb, .int pn])), (pb, .inl (cB, pl, .inl pf)), (ha, .inr (2, [.ref pa, .ref da])), (ea, .inr (0, [.ref sa, .ref da, .ref ha, .int ra, .int v2, .int rp]))]) rfl (q0 := 7) rfl (x := ⟨"PressSuite$Reader", "refuseIf", "(ZI)V"⟩) cv_D_40_ER rfl rfl ⟨Nat.le_of_ble_eq_true rfl, Nat.le_of_ble_eq_true rfl⟩ hf0 rfl (Nat.le_of_ble_eq_true rfl) zd_D_requireRoom_20 rfl ?_
    have q1 := Option.some.inj h
    subst q1
    exact E 23 _ zd_D_requireRoom_23
  have h := hj19
  refine G_icmp_le F zd_D_requireRoom_11 (tgt := 18) rfl (fun h0 => ?_) (fun h0 => ?_)
  · have h := iP h h0
    refine G_iconst (v := (0 : Int32)) F zd_D_requireRoom_18 (by decide) ?_
    have q1 := Option.some.inj h
    subst q1
    exact G_lv [0, 1, 2, 3] rfl X19
  · have h := iN h h0
    refine G_iconst (v := (1 : Int32)) F zd_D_requireRoom_14 (by decide) ?_
    refine G_goto F zd_D_requireRoom_15 (tgt := 19) rfl ?_
    have q1 := Option.some.inj h
    subst q1
    exact G_lv [0, 1, 2, 3] rfl X19

set_option maxHeartbeats 4000000 in
set_option maxRecDepth 100000 in
theorem zl_D_copyLiterals_E_2 {k : GC} {l : Launch} {D : va_G} {cB cI cJ : ClassId} (F : GF k l { frames := 2, cells := 0, slots := 0, locals := 43 } zc_D_copyLiterals 3 RX4 D cB cI cJ) (sn : Int32) (sl : Nat) (sf : Nat → Int32) (dl : Nat) (pn : Int32) (pl : Nat) (pf : Nat → Int32) (rp : Int32) (i1 : Int32) (sa : Nat) (sb : Nat) (da : Nat) (db : Nat) (pa : Nat) (pb : Nat) (ha : Nat) (ea : Nat) : ∀ (n : Nat) (v1 : Int32) (v2 : Int32) (v3 : Nat → Int32) (v4 : Int32) (v5 : Int32) (w1 : Int32) (w2 : Int32) (w3 : Nat → Int32) (w4 : Int32) (w5 : Int32), zf_D_copyLiterals_L2 sn sl sf dl i1 n v1 v2 v3 v4 v5 = some (w1, w2, w3, w4, w5) → G D 3 k 0 0 31 [(0, .ref ea), (1, .int i1), (2, .int w1)] [] [(sa, .inr (4, [.ref sb, .int sn])), (sb, .inl (cB, sl, .inl sf)), (da, .inr (4, [.ref db, .int w2])), (db, .inl (cB, dl, .inl w3)), (pa, .inr (4, [.ref pb, .int pn])), (pb, .inl (cB, pl, .inl pf)), (ha, .inr (2, [.ref pa, .ref da])), (ea, .inr (0, [.ref sa, .ref da, .ref ha, .int w4, .int w5, .int rp]))] → G D 3 k 0 0 2 [(0, .ref ea), (1, .int i1), (2, .int v1)] [] [(sa, .inr (4, [.ref sb, .int sn])), (sb, .inl (cB, sl, .inl sf)), (da, .inr (4, [.ref db, .int v2])), (db, .inl (cB, dl, .inl v3)), (pa, .inr (4, [.ref pb, .int pn])), (pb, .inl (cB, pl, .inl pf)), (ha, .inr (2, [.ref pa, .ref da])), (ea, .inr (0, [.ref sa, .ref da, .ref ha, .int v4, .int v5, .int rp]))] := by
  intro n
  induction n with
  | zero =>
    intro v1 v2 v3 v4 v5 w1 w2 w3 w4 w5 h
    rw [zf_D_copyLiterals_L2_0] at h
    cases h
  | succ n ih =>
    intro v1 v2 v3 v4 v5 w1 w2 w3 w4 w5 h hx
    have h := (zf_D_copyLiterals_L2_s sn sl sf dl i1 n v1 v2 v3 v4 v5).symm.trans h
    refine G_iload_n F zd_D_copyLiterals_2 rfl (j := 2) rfl ?_
    refine G_iload_n F zd_D_copyLiterals_3 rfl (j := 1) rfl ?_
    refine G_icmp_ge F zd_D_copyLiterals_4 (tgt := 31) rfl (fun h0 => ?_) (fun h0 => ?_)
    · have h := iP h h0
      obtain ⟨q1, q2, q3, q4, q5⟩ := inj5 h
      subst q1
      subst q2
      subst q3
      subst q4
      subst q5
      exact G_lv [0, 1, 2] rfl hx
    · have h := iN h h0
      refine G_aload_n F zd_D_copyLiterals_7 rfl (j := 0) rfl ?_
      obtain ⟨v6, hc8, h⟩ := bc1_s h
      refine G_calliU0 F (zk_D_refused_E l D cB cI cJ sa sb da db pa pb ha ea sn sl sf v2 dl v3 pn pl pf v4 v5 rp v6 hc8) (rest := []) [0, 1, 2, 3, 4, 5, 6, 7] rfl rfl (q0 := 7) rfl (x := ⟨"PressSuite$Reader", "refused", "()Z"⟩) cv_D_55_ER rfl rfl ⟨Nat.le_of_ble_eq_true rfl, Nat.le_of_ble_eq_true rfl⟩ hf0 rfl (Nat.le_of_ble_eq_true rfl) zd_D_copyLiterals_8 rfl ?_
      refine G_if_ne F zd_D_copyLiterals_11 (tgt := 31) rfl (fun h0 => ?_) (fun h0 => ?_)
      · have h := iN h h0
        obtain ⟨q1, q2, q3, q4, q5⟩ := inj5 h
        subst q1
        subst q2
        subst q3
        subst q4
        subst q5
        exact G_lv [0, 1, 2] rfl hx
      · have h := iP h h0
        refine G_aload_n F zd_D_copyLiterals_14 rfl (j := 0) rfl ?_
        refine G_get F fa_D_13_ER (q := 7) zd_D_copyLiterals_15 rfl rfl ?_
        refine G_aload_n F zd_D_copyLiterals_18 rfl (j := 0) rfl ?_
        obtain ⟨v7, v8, v9, hc19, h⟩ := bc3_s h
        refine G_calliU F (zk_D_take_E l D cB cI cJ sa sb da db pa pb ha ea sn sl sf v2 dl v3 pn pl pf v4 v5 rp v7 v8 v9 hc19) (rest := [.ref da]) [0, 1, 2, 3, 4, 5, 6, 7] rfl rfl rfl (ws' := [(sa, .inr (4, [.ref sb, .int sn])), (sb, .inl (cB, sl, .inl sf)), (da, .inr (4, [.ref db, .int v2])), (db, .inl (cB, dl, .inl v3)), (pa, .inr (4, [.ref pb, .int pn])), (pb, .inl (cB, pl, .inl pf)), (ha, .inr (2, [.ref pa, .ref da])), (ea, .inr (0, [.ref sa, .ref da, .ref ha, .int v8, .int v9, .int rp]))]) rfl (q0 := 7) rfl (x := ⟨"PressSuite$Reader", "take", "()I"⟩) cv_D_48_ER rfl rfl ⟨Nat.le_of_ble_eq_true rfl, Nat.le_of_ble_eq_true rfl⟩ hf0 rfl (Nat.le_of_ble_eq_true rfl) zd_D_copyLiterals_19 rfl ?_
        obtain ⟨v10, v11, hc22, h⟩ := bc2_s h
        refine G_callvV F (zk_R_add l D cB cI cJ da db v2 dl v3 v7 v10 v11 hc22) (rest := []) [2, 3] rfl rfl rfl (ws' := [(sa, .inr (4, [.ref sb, .int sn])), (sb, .inl (cB, sl, .inl sf)), (da, .inr (4, [.ref db, .int v10])), (db, .inl (cB, dl, .inl v11)), (pa, .inr (4, [.ref pb, .int pn])), (pb, .inl (cB, pl, .inl pf)), (ha, .inr (2, [.ref pa, .ref da])), (ea, .inr (0, [.ref sa, .ref da, .ref ha, .int v8, .int v9, .int rp]))]) rfl (q0 := 2) rfl cv_D_59_R rfl rfl ⟨Nat.le_of_ble_eq_true rfl, Nat.le_of_ble_eq_true rfl⟩ hf0 rfl (Nat.le_of_ble_eq_true rfl) zd_D_copyLiterals_22 rfl ?_
        obtain ⟨v12, ev12, h⟩ := bnd_s h
        refine G_iinc F zd_D_copyLiterals_25 (j := 2) rfl (w := (1 : Int32)) (by decide) ev12 (by decide) (L' := [(2, .int v12), (0, .ref ea), (1, .int i1)]) rfl ?_
        refine G_goto F zd_D_copyLiterals_28 (tgt := 2) rfl ?_
        exact G_lv [1, 2, 0] rfl (ih _ _ _ _ _ _ _ _ _ _ h hx)
set_option maxHeartbeats 4000000 in
set_option maxRecDepth 100000 in
theorem zk_D_copyLiterals_E (l : Launch) (D : va_G) (cB cI cJ : ClassId) (sa : Nat) (sb : Nat) (da : Nat) (db : Nat) (pa : Nat) (pb : Nat) (ha : Nat) (ea : Nat) (sn : Int32) (sl : Nat) (sf : Nat → Int32) (dn : Int32) (dl : Nat) (df : Nat → Int32) (pn : Int32) (pl : Nat) (pf : Nat → Int32) (ra : Int32) (rr : Int32) (rp : Int32) (i1 : Int32) (dn' : Int32) (df' : Nat → Int32) (ra' : Int32) (rr' : Int32) (h : zf_D_copyLiterals sn sl sf dn dl df ra rr i1 = some (dn', df', ra', rr')) : CoV l zy_D_copyLiterals zw_D_copyLiterals { frames := 2, cells := 0, slots := 0, locals := 43 } D cB cI cJ [.ref ea, .int i1] [(sa, .inr (4, [.ref sb, .int sn])), (sb, .inl (cB, sl, .inl sf)), (da, .inr (4, [.ref db, .int dn])), (db, .inl (cB, dl, .inl df)), (pa, .inr (4, [.ref pb, .int pn])), (pb, .inl (cB, pl, .inl pf)), (ha, .inr (2, [.ref pa, .ref da])), (ea, .inr (0, [.ref sa, .ref da, .ref ha, .int ra, .int rr, .int rp]))] [(sa, .inr (4, [.ref sb, .int sn])), (sb, .inl (cB, sl, .inl sf)), (da, .inr (4, [.ref db, .int dn'])), (db, .inl (cB, dl, .inl df')), (pa, .inr (4, [.ref pb, .int pn])), (pb, .inl (cB, pl, .inl pf)), (ha, .inr (2, [.ref pa, .ref da])), (ea, .inr (0, [.ref sa, .ref da, .ref ha, .int ra', .int rr', .int rp]))] := by
  unfold zf_D_copyLiterals at h
  refine CoV.ofG (cc := zc_D_copyLiterals) (maxL := 3) (own := RX4) (by decide) rfl rfl rfl trivial (Nat.le_of_ble_eq_true rfl) (L0 := [(0, .ref ea), (1, .int i1)]) rfl (fun k F E => ?_)
  refine G_iconst (v := (0 : Int32)) F zd_D_copyLiterals_0 (by decide) ?_
  refine G_istore_n F zd_D_copyLiterals_1 rfl (by decide) (L' := [(2, .int (0 : Int32)), (0, .ref ea), (1, .int i1)]) rfl ?_
  obtain ⟨x13, x14, x15, x16, x17, hl2, h⟩ := bc5_s h
  refine G_lv [1, 2, 0] rfl (zl_D_copyLiterals_E_2 F sn sl sf dl pn pl pf rp i1 sa sb da db pa pb ha ea 1000 (0 : Int32) dn df ra rr x13 x14 x15 x16 x17 hl2 ?_)
  obtain ⟨q1, q2, q3, q4⟩ := inj4 h
  subst q1
  subst q2
  subst q3
  subst q4
  exact E 31 _ zd_D_copyLiterals_31

set_option maxHeartbeats 4000000 in
set_option maxRecDepth 100000 in
theorem zk_ER_readLiterals (l : Launch) (D : va_G) (cB cI cJ : ClassId) (sa : Nat) (sb : Nat) (da : Nat) (db : Nat) (pa : Nat) (pb : Nat) (ha : Nat) (ea : Nat) (sn : Int32) (sl : Nat) (sf : Nat → Int32) (dn : Int32) (dl : Nat) (df : Nat → Int32) (pn : Int32) (pl : Nat) (pf : Nat → Int32) (ra : Int32) (rr : Int32) (rp : Int32) (i1 : Int32) (i2 : Int32) (dn' : Int32) (df' : Nat → Int32) (ra' : Int32) (rr' : Int32) (h : zf_ER_readLiterals sn sl sf dn dl df ra rr rp i1 i2 = some (dn', df', ra', rr')) : CoV l zy_ER_readLiterals zw_ER_readLiterals { frames := 3, cells := 0, slots := 0, locals := 65 } D cB cI cJ [.ref ea, .int i1, .int i2] [(sa, .inr (4, [.ref sb, .int sn])), (sb, .inl (cB, sl, .inl sf)), (da, .inr (4, [.ref db, .int dn])), (db, .inl (cB, dl, .inl df)), (pa, .inr (4, [.ref pb, .int pn])), (pb, .inl (cB, pl, .inl pf)), (ha, .inr (2, [.ref pa, .ref da])), (ea, .inr (0, [.ref sa, .ref da, .ref ha, .int ra, .int rr, .int rp]))] [(sa, .inr (4, [.ref sb, .int sn])), (sb, .inl (cB, sl, .inl sf)), (da, .inr (4, [.ref db, .int dn'])), (db, .inl (cB, dl, .inl df')), (pa, .inr (4, [.ref pb, .int pn])), (pb, .inl (cB, pl, .inl pf)), (ha, .inr (2, [.ref pa, .ref da])), (ea, .inr (0, [.ref sa, .ref da, .ref ha, .int ra', .int rr', .int rp]))] := by
  unfold zf_ER_readLiterals at h
  refine CoV.ofG (cc := zc_ER_readLiterals) (maxL := 4) (own := RX0) (by decide) rfl rfl rfl trivial (Nat.le_of_ble_eq_true rfl) (L0 := [(0, .ref ea), (1, .int i1), (2, .int i2)]) rfl (fun k F E => ?_)
  refine G_aload_n F zd_ER_readLiterals_0 rfl (j := 0) rfl ?_
  refine G_iload_n F zd_ER_readLiterals_1 rfl (j := 1) rfl ?_
  refine G_bipush (v := (60 : Int32)) F zd_ER_readLiterals_2 (by decide) ?_
  obtain ⟨u1, hj12, h⟩ := bc1_s h
  have X12 : G D 4 k 0 0 12 [(0, .ref ea), (1, .int i1), (2, .int i2)] [.int u1, .ref ea] [(sa, .inr (4, [.ref sb, .int sn])), (sb, .inl (cB, sl, .inl sf)), (da, .inr (4, [.ref db, .int dn])), (db, .inl (cB, dl, .inl df)), (pa, .inr (4, [.ref pb, .int pn])), (pb, .inl (cB, pl, .inl pf)), (ha, .inr (2, [.ref pa, .ref da])), (ea, .inr (0, [.ref sa, .ref da, .ref ha, .int ra, .int rr, .int rp]))] := by
    refine G_iload_n F zd_ER_readLiterals_12 rfl (j := 2) rfl ?_
    obtain ⟨v2, hc13, h⟩ := bc1_s h
    refine G_callvU F (zk_D_refuseIf_E l D cB cI cJ sa sb da db pa pb ha ea sn sl sf dn dl df pn pl pf ra rr rp u1 i2 v2 hc13) (rest := []) [0, 1, 2, 3, 4, 5, 6, 7] rfl rfl rfl (ws' := [(sa, .inr (4, [.ref sb, .int sn])), (sb, .inl (cB, sl, .inl sf)), (da, .inr (4, [.ref db, .int dn])), (db, .inl (cB, dl, .inl df)), (pa, .inr (4, [.ref pb, .int pn])), (pb, .inl (cB, pl, .inl pf)), (ha, .inr (2, [.ref pa, .ref da])), (ea, .inr (0, [.ref sa, .ref da, .ref ha, .int ra, .int v2, .int rp]))]) rfl (q0 := 7) rfl (x := ⟨"PressSuite$ElementReader", "refuseIf", "(ZI)V"⟩) cv_ER_42_ER rfl rfl ⟨Nat.le_of_ble_eq_true rfl, Nat.le_of_ble_eq_true rfl⟩ hf0 rfl (Nat.le_of_ble_eq_true rfl) zd_ER_readLiterals_13 rfl ?_
    refine G_iload_n F zd_ER_readLiterals_16 rfl (j := 1) rfl ?_
    refine G_bipush (v := (60 : Int32)) F zd_ER_readLiterals_17 (by decide) ?_
    obtain ⟨u3, u4, u5, hj30, h⟩ := bc3_s h
    have X30 : G D 4 k 0 0 30 [(0, .ref ea), (1, .int i1), (2, .int i2)] [.int u3] [(sa, .inr (4, [.ref sb, .int sn])), (sb, .inl (cB, sl, .inl sf)), (da, .inr (4, [.ref db, .int dn])), (db, .inl (cB, dl, .inl df)), (pa, .inr (4, [.ref pb, .int pn])), (pb, .inl (cB, pl, .inl pf)), (ha, .inr (2, [.ref pa, .ref da])), (ea, .inr (0, [.ref sa, .ref da, .ref ha, .int u4, .int u5, .int rp]))] := by
      refine G_istore_n F zd_ER_readLiterals_30 rfl (by decide) (L' := [(3, .int u3), (0, .ref ea), (1, .int i1), (2, .int i2)]) rfl ?_
      refine G_aload_n F zd_ER_readLiterals_31 rfl (j := 1) rfl ?_
      refine G_iload_n F zd_ER_readLiterals_32 rfl (j := 0) rfl ?_
      refine G_iconst (v := (1 : Int32)) F zd_ER_readLiterals_33 (by decide) ?_
      refine G_iadd F zd_ER_readLiterals_34 ?_
      refine G_aload_n F zd_ER_readLiterals_35 rfl (j := 1) rfl ?_
      refine G_get F fa_ER_15_ER (q := 7) zd_ER_readLiterals_36 rfl rfl ?_
      refine G_iload_n F zd_ER_readLiterals_39 rfl (j := 3) rfl ?_
      obtain ⟨v9, hc40, h⟩ := bc1_s h
      refine G_callvU F (zk_D_requireRoom_E l D cB cI cJ sa sb da db pa pb ha ea sn sl sf dn dl df pn pl pf u4 u5 rp (u3 + (1 : Int32)) rp i2 v9 hc40) (rest := []) [0, 1, 2, 3, 4, 5, 6, 7] rfl rfl rfl (ws' := [(sa, .inr (4, [.ref sb, .int sn])), (sb, .inl (cB, sl, .inl sf)), (da, .inr (4, [.ref db, .int dn])), (db, .inl (cB, dl, .inl df)), (pa, .inr (4, [.ref pb, .int pn])), (pb, .inl (cB, pl, .inl pf)), (ha, .inr (2, [.ref pa, .ref da])), (ea, .inr (0, [.ref sa, .ref da, .ref ha, .int u4, .int v9, .int rp]))]) rfl (q0 := 7) rfl (x := ⟨"PressSuite$ElementReader", "requireRoom", "(III)V"⟩) cv_ER_62_ER rfl rfl ⟨Nat.le_of_ble_eq_true rfl, Nat.le_of_ble_eq_true rfl⟩ hf0 rfl (Nat.le_of_ble_eq_true rfl) zd_ER_readLiterals_40 rfl ?_
      refine G_aload_n F zd_ER_readLiterals_43 rfl (j := 1) rfl ?_
      refine G_iload_n F zd_ER_readLiterals_44 rfl (j := 0) rfl ?_
      refine G_iconst (v := (1 : Int32)) F zd_ER_readLiterals_45 (by decide) ?_
      refine G_iadd F zd_ER_readLiterals_46 ?_
      obtain ⟨v10, v11, v12, v13, hc47, h⟩ := bc4_s h
      refine G_callvU F (zk_D_copyLiterals_E l D cB cI cJ sa sb da db pa pb ha ea sn sl sf dn dl df pn pl pf u4 v9 rp (u3 + (1 : Int32)) v10 v11 v12 v13 hc47) (rest := []) [0, 1, 2, 3, 4, 5, 6, 7] rfl rfl rfl (ws' := [(sa, .inr (4, [.ref sb, .int sn])), (sb, .inl (cB, sl, .inl sf)), (da, .inr (4, [.ref db, .int v10])), (db, .inl (cB, dl, .inl v11)), (pa, .inr (4, [.ref pb, .int pn])), (pb, .inl (cB, pl, .inl pf)), (ha, .inr (2, [.ref pa, .ref da])), (ea, .inr (0, [.ref sa, .ref da, .ref ha, .int v12, .int v13, .int rp]))]) rfl (q0 := 7) rfl (x := ⟨"PressSuite$ElementReader", "copyLiterals", "(I)V"⟩) cv_ER_66_ER rfl rfl ⟨Nat.le_of_ble_eq_true rfl, Nat.le_of_ble_eq_true rfl⟩ hf0 rfl (Nat.le_of_ble_eq_true rfl) zd_ER_readLiterals_47 rfl ?_
      obtain ⟨q1, q2, q3, q4⟩ := inj4 h
      subst q1
      subst q2
      subst q3
      subst q4
      exact E 50 _ zd_ER_readLiterals_50
    have h := hj30
    refine G_icmp_ne F zd_ER_readLiterals_19 (tgt := 29) rfl (fun h0 => ?_) (fun h0 => ?_)
    · have h := iN h h0
      refine G_iload_n F zd_ER_readLiterals_29 rfl (j := 1) rfl ?_
      obtain ⟨q1, q2, q3⟩ := inj3 h
      subst q1
      subst q2
      subst q3
      exact G_lv [0, 1, 2] rfl X30
    · have h := iP h h0
      refine G_aload_n F zd_ER_readLiterals_22 rfl (j := 0) rfl ?_
      obtain ⟨v6, v7, v8, hc23, h⟩ := bc3_s h
      refine G_calliU F (zk_D_take_E l D cB cI cJ sa sb da db pa pb ha ea sn sl sf dn dl df pn pl pf ra v2 rp v6 v7 v8 hc23) (rest := []) [0, 1, 2, 3, 4, 5, 6, 7] rfl rfl rfl (ws' := [(sa, .inr (4, [.ref sb, .int sn])), (sb, .inl (cB, sl, .inl sf)), (da, .inr (4, [.ref db, .int dn])), (db, .inl (cB, dl, .inl df)), (pa, .inr (4, [.ref pb, .int pn])), (pb, .inl (cB, pl, .inl pf)), (ha, .inr (2, [.ref pa, .ref da])), (ea, .inr (0, [.ref sa, .ref da, .ref ha, .int v7, .int v8, .int rp]))]) rfl (q0 := 7) rfl (x := ⟨"PressSuite$ElementReader", "take", "()I"⟩) cv_ER_46_ER rfl rfl ⟨Nat.le_of_ble_eq_true rfl, Nat.le_of_ble_eq_true rfl⟩ hf0 rfl (Nat.le_of_ble_eq_true rfl) zd_ER_readLiterals_23 rfl ?_
      refine G_goto F zd_ER_readLiterals_26 (tgt := 30) rfl ?_
      obtain ⟨q1, q2, q3⟩ := inj3 h
      subst q1
      subst q2
      subst q3
      exact G_lv [0, 1, 2] rfl X30
  have h := hj12
  refine G_icmp_le F zd_ER_readLiterals_4 (tgt := 11) rfl (fun h0 => ?_) (fun h0 => ?_)
  · have h := iP h h0
    refine G_iconst (v := (0 : Int32)) F zd_ER_readLiterals_11 (by decide) ?_
    have q1 := Option.some.inj h
    subst q1
    exact G_lv [0, 1, 2] rfl X12
  · have h := iN h h0
    refine G_iconst (v := (1 : Int32)) F zd_ER_readLiterals_7 (by decide) ?_
    refine G_goto F zd_ER_readLiterals_8 (tgt := 12) rfl ?_
    have q1 := Option.some.inj h
    subst q1
    exact G_lv [0, 1, 2] rfl X12

set_option maxHeartbeats 4000000 in
set_option maxRecDepth 100000 in
theorem zk_D_requireDistance_E (l : Launch) (D : va_G) (cB cI cJ : ClassId) (sa : Nat) (sb : Nat) (da : Nat) (db : Nat) (pa : Nat) (pb : Nat) (ha : Nat) (ea : Nat) (sn : Int32) (sl : Nat) (sf : Nat → Int32) (dn : Int32) (dl : Nat) (df : Nat → Int32) (pn : Int32) (pl : Nat) (pf : Nat → Int32) (ra : Int32) (rr : Int32) (rp : Int32) (i1 : Int32) (i2 : Int32) (rr' : Int32) (h : zf_D_requireDistance dn pn rr i1 i2 = some rr') : CoV l zy_D_requireDistance zw_D_requireDistance { frames := 1, cells := 0, slots := 0, locals := 22 } D cB cI cJ [.ref ea, .int i1, .int i2] [(sa, .inr (4, [.ref sb, .int sn])), (sb, .inl (cB, sl, .inl sf)), (da, .inr (4, [.ref db, .int dn])), (db, .inl (cB, dl, .inl df)), (pa, .inr (4, [.ref pb, .int pn])), (pb, .inl (cB, pl, .inl pf)), (ha, .inr (2, [.ref pa, .ref da])), (ea, .inr (0, [.ref sa, .ref da, .ref ha, .int ra, .int rr, .int rp]))] [(sa, .inr (4, [.ref sb, .int sn])), (sb, .inl (cB, sl, .inl sf)), (da, .inr (4, [.ref db, .int dn])), (db, .inl (cB, dl, .inl df)), (pa, .inr (4, [.ref pb, .int pn])), (pb, .inl (cB, pl, .inl pf)), (ha, .inr (2, [.ref pa, .ref da])), (ea, .inr (0, [.ref sa, .ref da, .ref ha, .int ra, .int rr', .int rp]))] := by
  unfold zf_D_requireDistance at h
  refine CoV.ofG (cc := zc_D_requireDistance) (maxL := 3) (own := RX4) (by decide) rfl rfl rfl trivial (Nat.le_of_ble_eq_true rfl) (L0 := [(0, .ref ea), (1, .int i1), (2, .int i2)]) rfl (fun k F E => ?_)
  refine G_aload_n F zd_D_requireDistance_0 rfl (j := 0) rfl ?_
  refine G_iload_n F zd_D_requireDistance_1 rfl (j := 1) rfl ?_
  obtain ⟨u1, hj21, h⟩ := bc1_s h
  have X21 : G D 3 k 0 0 21 [(0, .ref ea), (1, .int i1), (2, .int i2)] [.int u1, .ref ea] [(sa, .inr (4, [.ref sb, .int sn])), (sb, .inl (cB, sl, .inl sf)), (da, .inr (4, [.ref db, .int dn])), (db, .inl (cB, dl, .inl df)), (pa, .inr (4, [.ref pb, .int pn])), (pb, .inl (cB, pl, .inl pf)), (ha, .inr (2, [.ref pa, .ref da])), (ea, .inr (0, [.ref sa, .ref da, .ref ha, .int ra, .int rr, .int rp]))] := by
    refine G_iload_n F zd_D_requireDistance_21 rfl (j := 2) rfl ?_
    obtain ⟨v3, hc22, h⟩ := bc1_s h
    refine G_callvU F (zk_D_refuseIf_E l D cB cI cJ sa sb da db pa pb ha ea sn sl sf dn dl df pn pl pf ra rr rp u1 i2 v3 hc22) (rest := []) [0, 1, 2, 3, 4, 5, 6, 7] rfl rfl rfl (ws' := [(sa, .inr (4, [.ref sb, .int sn])), (sb, .inl (cB, sl, .inl sf)), (da, .inr (4, [.ref db, .int dn])), (db, .inl (cB, dl, .inl df)), (pa, .inr (4, [.ref pb, .int pn])), (pb, .inl (cB, pl, .inl pf)), (ha, .inr (2, [.ref pa, .ref da])), (ea, .inr (0, [.ref sa, .ref da, .ref ha, .int ra, .int v3, .int rp]))]) rfl (q0 := 7) rfl (x := ⟨"PressSuite$Reader", "refuseIf", "(ZI)V"⟩) cv_D_40_ER rfl rfl ⟨Nat.le_of_ble_eq_true rfl, Nat.le_of_ble_eq_true rfl⟩ hf0 rfl (Nat.le_of_ble_eq_true rfl) zd_D_requireDistance_22 rfl ?_
    have q1 := Option.some.inj h
    subst q1
    exact E 25 _ zd_D_requireDistance_25
  have h := hj21
  refine G_if_eq F zd_D_requireDistance_2 (tgt := 16) rfl (fun h0 => ?_) (fun h0 => ?_)
  · have h := iP h h0
    refine G_iconst (v := (1 : Int32)) F zd_D_requireDistance_16 (by decide) ?_
    refine G_goto F zd_D_requireDistance_17 (tgt := 21) rfl ?_
    have q1 := Option.some.inj h
    subst q1
    exact G_lv [0, 1, 2] rfl X21
  · have h := iN h h0
    refine G_iload_n F zd_D_requireDistance_5 rfl (j := 1) rfl ?_
    refine G_aload_n F zd_D_requireDistance_6 rfl (j := 0) rfl ?_
    refine G_get F fa_D_21_ER (q := 7) zd_D_requireDistance_7 rfl rfl ?_
    obtain ⟨v2, hc10, h⟩ := bc1_s h
    refine G_calliV0 F (zk_H_length l D cB cI cJ pa pb da db ha pn pl pf dn dl df v2 hc10) (rest := [.int i1, .ref ea]) [4, 5, 2, 3, 6] rfl rfl (q0 := 6) rfl cv_D_52_H rfl rfl ⟨Nat.le_of_ble_eq_true rfl, Nat.le_of_ble_eq_true rfl⟩ hf0 rfl (Nat.le_of_ble_eq_true rfl) zd_D_requireDistance_10 rfl ?_
    refine G_icmp_le F zd_D_requireDistance_13 (tgt := 20) rfl (fun h0 => ?_) (fun h0 => ?_)
    · have h := iP h h0
      refine G_iconst (v := (0 : Int32)) F zd_D_requireDistance_20 (by decide) ?_
      have q1 := Option.some.inj h
      subst q1
      exact G_lv [0, 1, 2] rfl X21
    · have h := iN h h0
      refine G_iconst (v := (1 : Int32)) F zd_D_requireDistance_16 (by decide) ?_
      refine G_goto F zd_D_requireDistance_17 (tgt := 21) rfl ?_
      have q1 := Option.some.inj h
      subst q1
      exact G_lv [0, 1, 2] rfl X21

set_option maxHeartbeats 4000000 in
set_option maxRecDepth 100000 in
theorem zl_D_copyBack_E_2 {k : GC} {l : Launch} {D : va_G} {cB cI cJ : ClassId} (F : GF k l { frames := 2, cells := 0, slots := 0, locals := 42 } zc_D_copyBack 4 RX4 D cB cI cJ) (sn : Int32) (sl : Nat) (sf : Nat → Int32) (dl : Nat) (pn : Int32) (pl : Nat) (pf : Nat → Int32) (ra : Int32) (rr : Int32) (rp : Int32) (i1 : Int32) (i2 : Int32) (sa : Nat) (sb : Nat) (da : Nat) (db : Nat) (pa : Nat) (pb : Nat) (ha : Nat) (ea : Nat) : ∀ (n : Nat) (v1 : Int32) (v2 : Int32) (v3 : Nat → Int32) (w1 : Int32) (w2 : Int32) (w3 : Nat → Int32), zf_D_copyBack_L2 dl pn pl pf rr i1 i2 n v1 v2 v3 = some (w1, w2, w3) → G D 4 k 0 0 43 [(0, .ref ea), (1, .int i1), (2, .int i2), (3, .int w1)] [] [(sa, .inr (4, [.ref sb, .int sn])), (sb, .inl (cB, sl, .inl sf)), (da, .inr (4, [.ref db, .int w2])), (db, .inl (cB, dl, .inl w3)), (pa, .inr (4, [.ref pb, .int pn])), (pb, .inl (cB, pl, .inl pf)), (ha, .inr (2, [.ref pa, .ref da])), (ea, .inr (0, [.ref sa, .ref da, .ref ha, .int ra, .int rr, .int rp]))] → G D 4 k 0 0 2 [(0, .ref ea), (1, .int i1), (2, .int i2), (3, .int v1)] [] [(sa, .inr (4, [.ref sb, .int sn])), (sb, .inl (cB, sl, .inl sf)), (da, .inr (4, [.ref db, .int v2])), (db, .inl (cB, dl, .inl v3)), (pa, .inr (4, [.ref pb, .int pn])), (pb, .inl (cB, pl, .inl pf)), (ha, .inr (2, [.ref pa, .ref da])), (ea, .inr (0, [.ref sa, .ref da, .ref ha, .int ra, .int rr, .int rp]))] := by
  intro n
  induction n with
  | zero =>
    intro v1 v2 v3 w1 w2 w3 h
    rw [zf_D_copyBack_L2_0] at h
    cases h
  | succ n ih =>
    intro v1 v2 v3 w1 w2 w3 h hx
    have h := (zf_D_copyBack_L2_s dl pn pl pf rr i1 i2 n v1 v2 v3).symm.trans h
    refine G_iload_n F zd_D_copyBack_2 rfl (j := 3) rfl ?_
    refine G_iload_n F zd_D_copyBack_3 rfl (j := 2) rfl ?_
    refine G_icmp_ge F zd_D_copyBack_4 (tgt := 43) rfl (fun h0 => ?_) (fun h0 => ?_)
    · have h := iP h h0
      obtain ⟨q1, q2, q3⟩ := inj3 h
      subst q1
      subst q2
      subst q3
      exact G_lv [0, 1, 2, 3] rfl hx
    · have h := iN h h0
      refine G_aload_n F zd_D_copyBack_7 rfl (j := 0) rfl ?_
      obtain ⟨v4, hc8, h⟩ := bc1_s h
      refine G_calliU0 F (zk_D_refused_E l D cB cI cJ sa sb da db pa pb ha ea sn sl sf v2 dl v3 pn pl pf ra rr rp v4 hc8) (rest := []) [0, 1, 2, 3, 4, 5, 6, 7] rfl rfl (q0 := 7) rfl (x := ⟨"PressSuite$Reader", "refused", "()Z"⟩) cv_D_55_ER rfl rfl ⟨Nat.le_of_ble_eq_true rfl, Nat.le_of_ble_eq_true rfl⟩ hf0 rfl (Nat.le_of_ble_eq_true rfl) zd_D_copyBack_8 rfl ?_
      refine G_if_ne F zd_D_copyBack_11 (tgt := 43) rfl (fun h0 => ?_) (fun h0 => ?_)
      · have h := iN h h0
        obtain ⟨q1, q2, q3⟩ := inj3 h
        subst q1
        subst q2
        subst q3
        exact G_lv [0, 1, 2, 3] rfl hx
      · have h := iP h h0
        refine G_aload_n F zd_D_copyBack_14 rfl (j := 0) rfl ?_
        refine G_get F fa_D_13_ER (q := 7) zd_D_copyBack_15 rfl rfl ?_
        refine G_aload_n F zd_D_copyBack_18 rfl (j := 0) rfl ?_
        refine G_get F fa_D_21_ER (q := 7) zd_D_copyBack_19 rfl rfl ?_
        refine G_aload_n F zd_D_copyBack_22 rfl (j := 0) rfl ?_
        refine G_get F fa_D_21_ER (q := 7) zd_D_copyBack_23 rfl rfl ?_
        obtain ⟨v5, hc26, h⟩ := bc1_s h
        refine G_calliV0 F (zk_H_length l D cB cI cJ pa pb da db ha pn pl pf v2 dl v3 v5 hc26) (rest := [.ref ha, .ref da]) [4, 5, 2, 3, 6] rfl rfl (q0 := 6) rfl cv_D_52_H rfl rfl ⟨Nat.le_of_ble_eq_true rfl, Nat.le_of_ble_eq_true rfl⟩ hf0 rfl (Nat.le_of_ble_eq_true rfl) zd_D_copyBack_26 rfl ?_
        refine G_iload_n F zd_D_copyBack_29 rfl (j := 1) rfl ?_
        refine G_isub F zd_D_copyBack_30 ?_
        obtain ⟨v6, hc31, h⟩ := bc1_s h
        refine G_calliV0 F (zk_H_byteAt l D cB cI cJ pa pb da db ha pn pl pf v2 dl v3 (v5 - i1) v6 hc31) (rest := [.ref da]) [4, 5, 2, 3, 6] rfl rfl (q0 := 6) rfl cv_D_63_H rfl rfl ⟨Nat.le_of_ble_eq_true rfl, Nat.le_of_ble_eq_true rfl⟩ hf0 rfl (Nat.le_of_ble_eq_true rfl) zd_D_copyBack_31 rfl ?_
        obtain ⟨v7, v8, hc34, h⟩ := bc2_s h
        refine G_callvV F (zk_R_add l D cB cI cJ da db v2 dl v3 v6 v7 v8 hc34) (rest := []) [2, 3] rfl rfl rfl (ws' := [(sa, .inr (4, [.ref sb, .int sn])), (sb, .inl (cB, sl, .inl sf)), (da, .inr (4, [.ref db, .int v7])), (db, .inl (cB, dl, .inl v8)), (pa, .inr (4, [.ref pb, .int pn])), (pb, .inl (cB, pl, .inl pf)), (ha, .inr (2, [.ref pa, .ref da])), (ea, .inr (0, [.ref sa, .ref da, .ref ha, .int ra, .int rr, .int rp]))]) rfl (q0 := 2) rfl cv_D_59_R rfl rfl ⟨Nat.le_of_ble_eq_true rfl, Nat.le_of_ble_eq_true rfl⟩ hf0 rfl (Nat.le_of_ble_eq_true rfl) zd_D_copyBack_34 rfl ?_
        obtain ⟨v9, ev9, h⟩ := bnd_s h
        refine G_iinc F zd_D_copyBack_37 (j := 3) rfl (w := (1 : Int32)) (by decide) ev9 (by decide) (L' := [(3, .int v9), (0, .ref ea), (1, .int i1), (2, .int i2)]) rfl ?_
        refine G_goto F zd_D_copyBack_40 (tgt := 2) rfl ?_
        exact G_lv [1, 2, 3, 0] rfl (ih _ _ _ _ _ _ h hx)
set_option maxHeartbeats 4000000 in
set_option maxRecDepth 100000 in
theorem zk_D_copyBack_E (l : Launch) (D : va_G) (cB cI cJ : ClassId) (sa : Nat) (sb : Nat) (da : Nat) (db : Nat) (pa : Nat) (pb : Nat) (ha : Nat) (ea : Nat) (sn : Int32) (sl : Nat) (sf : Nat → Int32) (dn : Int32) (dl : Nat) (df : Nat → Int32) (pn : Int32) (pl : Nat) (pf : Nat → Int32) (ra : Int32) (rr : Int32) (rp : Int32) (i1 : Int32) (i2 : Int32) (dn' : Int32) (df' : Nat → Int32) (h : zf_D_copyBack dn dl df pn pl pf rr i1 i2 = some (dn', df')) : CoV l zy_D_copyBack zw_D_copyBack { frames := 2, cells := 0, slots := 0, locals := 42 } D cB cI cJ [.ref ea, .int i1, .int i2] [(sa, .inr (4, [.ref sb, .int sn])), (sb, .inl (cB, sl, .inl sf)), (da, .inr (4, [.ref db, .int dn])), (db, .inl (cB, dl, .inl df)), (pa, .inr (4, [.ref pb, .int pn])), (pb, .inl (cB, pl, .inl pf)), (ha, .inr (2, [.ref pa, .ref da])), (ea, .inr (0, [.ref sa, .ref da, .ref ha, .int ra, .int rr, .int rp]))] [(sa, .inr (4, [.ref sb, .int sn])), (sb, .inl (cB, sl, .inl sf)), (da, .inr (4, [.ref db, .int dn'])), (db, .inl (cB, dl, .inl df')), (pa, .inr (4, [.ref pb, .int pn])), (pb, .inl (cB, pl, .inl pf)), (ha, .inr (2, [.ref pa, .ref da])), (ea, .inr (0, [.ref sa, .ref da, .ref ha, .int ra, .int rr, .int rp]))] := by
  unfold zf_D_copyBack at h
  refine CoV.ofG (cc := zc_D_copyBack) (maxL := 4) (own := RX4) (by decide) rfl rfl rfl trivial (Nat.le_of_ble_eq_true rfl) (L0 := [(0, .ref ea), (1, .int i1), (2, .int i2)]) rfl (fun k F E => ?_)
  refine G_iconst (v := (0 : Int32)) F zd_D_copyBack_0 (by decide) ?_
  refine G_istore_n F zd_D_copyBack_1 rfl (by decide) (L' := [(3, .int (0 : Int32)), (0, .ref ea), (1, .int i1), (2, .int i2)]) rfl ?_
  obtain ⟨x10, x11, x12, hl2, h⟩ := bc3_s h
  refine G_lv [1, 2, 3, 0] rfl (zl_D_copyBack_E_2 F sn sl sf dl pn pl pf ra rr rp i1 i2 sa sb da db pa pb ha ea 1000 (0 : Int32) dn df x10 x11 x12 hl2 ?_)
  obtain ⟨q1, q2⟩ := inj2 h
  subst q1
  subst q2
  exact E 43 _ zd_D_copyBack_43

set_option maxHeartbeats 4000000 in
set_option maxRecDepth 100000 in
theorem zk_ER_readShortCopy (l : Launch) (D : va_G) (cB cI cJ : ClassId) (sa : Nat) (sb : Nat) (da : Nat) (db : Nat) (pa : Nat) (pb : Nat) (ha : Nat) (ea : Nat) (sn : Int32) (sl : Nat) (sf : Nat → Int32) (dn : Int32) (dl : Nat) (df : Nat → Int32) (pn : Int32) (pl : Nat) (pf : Nat → Int32) (ra : Int32) (rr : Int32) (rp : Int32) (i1 : Int32) (i2 : Int32) (dn' : Int32) (df' : Nat → Int32) (ra' : Int32) (rr' : Int32) (h : zf_ER_readShortCopy sn sl sf dn dl df pn pl pf ra rr rp i1 i2 = some (dn', df', ra', rr')) : CoV l zy_ER_readShortCopy zw_ER_readShortCopy { frames := 3, cells := 0, slots := 0, locals := 65 } D cB cI cJ [.ref ea, .int i1, .int i2] [(sa, .inr (4, [.ref sb, .int sn])), (sb, .inl (cB, sl, .inl sf)), (da, .inr (4, [.ref db, .int dn])), (db, .inl (cB, dl, .inl df)), (pa, .inr (4, [.ref pb, .int pn])), (pb, .inl (cB, pl, .inl pf)), (ha, .inr (2, [.ref pa, .ref da])), (ea, .inr (0, [.ref sa, .ref da, .ref ha, .int ra, .int rr, .int rp]))] [(sa, .inr (4, [.ref sb, .int sn])), (sb, .inl (cB, sl, .inl sf)), (da, .inr (4, [.ref db, .int dn'])), (db, .inl (cB, dl, .inl df')), (pa, .inr (4, [.ref pb, .int pn])), (pb, .inl (cB, pl, .inl pf)), (ha, .inr (2, [.ref pa, .ref da])), (ea, .inr (0, [.ref sa, .ref da, .ref ha, .int ra', .int rr', .int rp]))] := by
  unfold zf_ER_readShortCopy at h
  refine CoV.ofG (cc := zc_ER_readShortCopy) (maxL := 5) (own := RX0) (by decide) rfl rfl rfl trivial (Nat.le_of_ble_eq_true rfl) (L0 := [(0, .ref ea), (1, .int i1), (2, .int i2)]) rfl (fun k F E => ?_)
  refine G_iload_n F zd_ER_readShortCopy_0 rfl (j := 1) rfl ?_
  refine G_iconst (v := (5 : Int32)) F zd_ER_readShortCopy_1 (by decide) ?_
  refine G_ishr F zd_ER_readShortCopy_2 ?_
  refine G_sipush (v := (256 : Int32)) F zd_ER_readShortCopy_3 (by decide) ?_
  refine G_imul F zd_ER_readShortCopy_6 ?_
  refine G_aload_n F zd_ER_readShortCopy_7 rfl (j := 0) rfl ?_
  obtain ⟨v1, v2, v3, hc8, h⟩ := bc3_s h
  refine G_calliU F (zk_D_take_E l D cB cI cJ sa sb da db pa pb ha ea sn sl sf dn dl df pn pl pf ra rr rp v1 v2 v3 hc8) (rest := [.int ((i1 >>> ((5 : Int32) &&& 31)) * (256 : Int32))]) [0, 1, 2, 3, 4, 5, 6, 7] rfl rfl rfl (ws' := [(sa, .inr (4, [.ref sb, .int sn])), (sb, .inl (cB, sl, .inl sf)), (da, .inr (4, [.ref db, .int dn])), (db, .inl (cB, dl, .inl df)), (pa, .inr (4, [.ref pb, .int pn])), (pb, .inl (cB, pl, .inl pf)), (ha, .inr (2, [.ref pa, .ref da])), (ea, .inr (0, [.ref sa, .ref da, .ref ha, .int v2, .int v3, .int rp]))]) rfl (q0 := 7) rfl (x := ⟨"PressSuite$ElementReader", "take", "()I"⟩) cv_ER_46_ER rfl rfl ⟨Nat.le_of_ble_eq_true rfl, Nat.le_of_ble_eq_true rfl⟩ hf0 rfl (Nat.le_of_ble_eq_true rfl) zd_ER_readShortCopy_8 rfl ?_
  refine G_iadd F zd_ER_readShortCopy_11 ?_
  obtain ⟨v4, ev4, h⟩ := bnd_s h
  refine G_topi ev4 ?_
  refine G_istore_n F zd_ER_readShortCopy_12 rfl (by decide) (L' := [(3, .int v4), (0, .ref ea), (1, .int i1), (2, .int i2)]) rfl ?_
  refine G_aload_n F zd_ER_readShortCopy_13 rfl (j := 1) rfl ?_
  refine G_iload_n F zd_ER_readShortCopy_14 rfl (j := 0) rfl ?_
  refine G_iload_n F zd_ER_readShortCopy_15 rfl (j := 3) rfl ?_
  obtain ⟨v5, hc16, h⟩ := bc1_s h
  refine G_callvU F (zk_D_requireDistance_E l D cB cI cJ sa sb da db pa pb ha ea sn sl sf dn dl df pn pl pf v2 v3 rp v4 i2 v5 hc16) (rest := []) [0, 1, 2, 3, 4, 5, 6, 7] rfl rfl rfl (ws' := [(sa, .inr (4, [.ref sb, .int sn])), (sb, .inl (cB, sl, .inl sf)), (da, .inr (4, [.ref db, .int dn])), (db, .inl (cB, dl, .inl df)), (pa, .inr (4, [.ref pb, .int pn])), (pb, .inl (cB, pl, .inl pf)), (ha, .inr (2, [.ref pa, .ref da])), (ea, .inr (0, [.ref sa, .ref da, .ref ha, .int v2, .int v5, .int rp]))]) rfl (q0 := 7) rfl (x := ⟨"PressSuite$ElementReader", "requireDistance", "(II)V"⟩) cv_ER_70_ER rfl rfl ⟨Nat.le_of_ble_eq_true rfl, Nat.le_of_ble_eq_true rfl⟩ hf0 rfl (Nat.le_of_ble_eq_true rfl) zd_ER_readShortCopy_16 rfl ?_
  refine G_iload_n F zd_ER_readShortCopy_19 rfl (j := 2) rfl ?_
  refine G_iconst (v := (2 : Int32)) F zd_ER_readShortCopy_20 (by decide) ?_
  refine G_ishr F zd_ER_readShortCopy_21 ?_
  refine G_bipush (v := (7 : Int32)) F zd_ER_readShortCopy_22 (by decide) ?_
  refine G_iand F zd_ER_readShortCopy_24 ?_
  refine G_iconst (v := (4 : Int32)) F zd_ER_readShortCopy_25 (by decide) ?_
  refine G_iadd F zd_ER_readShortCopy_26 ?_
  obtain ⟨v6, ev6, h⟩ := bnd_s h
  refine G_topi ev6 ?_
  refine G_istore F zd_ER_readShortCopy_27 (by decide) (L' := [(4, .int v6), (3, .int v4), (0, .ref ea), (1, .int i1), (2, .int i2)]) rfl ?_
  refine G_aload_n F zd_ER_readShortCopy_29 rfl (j := 2) rfl ?_
  refine G_iload F zd_ER_readShortCopy_30 (j := 0) rfl ?_
  refine G_aload_n F zd_ER_readShortCopy_32 rfl (j := 2) rfl ?_
  refine G_get F fa_ER_15_ER (q := 7) zd_ER_readShortCopy_33 rfl rfl ?_
  refine G_iload_n F zd_ER_readShortCopy_36 rfl (j := 4) rfl ?_
  obtain ⟨v7, hc37, h⟩ := bc1_s h
  refine G_callvU F (zk_D_requireRoom_E l D cB cI cJ sa sb da db pa pb ha ea sn sl sf dn dl df pn pl pf v2 v5 rp v6 rp i2 v7 hc37) (rest := []) [0, 1, 2, 3, 4, 5, 6, 7] rfl rfl rfl (ws' := [(sa, .inr (4, [.ref sb, .int sn])), (sb, .inl (cB, sl, .inl sf)), (da, .inr (4, [.ref db, .int dn])), (db, .inl (cB, dl, .inl df)), (pa, .inr (4, [.ref pb, .int pn])), (pb, .inl (cB, pl, .inl pf)), (ha, .inr (2, [.ref pa, .ref da])), (ea, .inr (0, [.ref sa, .ref da, .ref ha, .int v2, .int v7, .int rp]))]) rfl (q0 := 7) rfl (x := ⟨"PressSuite$ElementReader", "requireRoom", "(III)V"⟩) cv_ER_62_ER rfl rfl ⟨Nat.le_of_ble_eq_true rfl, Nat.le_of_ble_eq_true rfl⟩ hf0 rfl (Nat.le_of_ble_eq_true rfl) zd_ER_readShortCopy_37 rfl ?_
  refine G_aload_n F zd_ER_readShortCopy_40 rfl (j := 2) rfl ?_
  refine G_iload_n F zd_ER_readShortCopy_41 rfl (j := 1) rfl ?_
  refine G_iload F zd_ER_readShortCopy_42 (j := 0) rfl ?_
  obtain ⟨v8, v9, hc44, h⟩ := bc2_s h
  refine G_callvU F (zk_D_copyBack_E l D cB cI cJ sa sb da db pa pb ha ea sn sl sf dn dl df pn pl pf v2 v7 rp v4 v6 v8 v9 hc44) (rest := []) [0, 1, 2, 3, 4, 5, 6, 7] rfl rfl rfl (ws' := [(sa, .inr (4, [.ref sb, .int sn])), (sb, .inl (cB, sl, .inl sf)), (da, .inr (4, [.ref db, .int v8])), (db, .inl (cB, dl, .inl v9)), (pa, .inr (4, [.ref pb, .int pn])), (pb, .inl (cB, pl, .inl pf)), (ha, .inr (2, [.ref pa, .ref da])), (ea, .inr (0, [.ref sa, .ref da, .ref ha, .int v2, .int v7, .int rp]))]) rfl (q0 := 7) rfl (x := ⟨"PressSuite$ElementReader", "copyBack", "(II)V"⟩) cv_ER_73_ER rfl rfl ⟨Nat.le_of_ble_eq_true rfl, Nat.le_of_ble_eq_true rfl⟩ hf0 rfl (Nat.le_of_ble_eq_true rfl) zd_ER_readShortCopy_44 rfl ?_
  obtain ⟨q1, q2, q3, q4⟩ := inj4 h
  subst q1
  subst q2
  subst q3
  subst q4
  exact E 47 _ zd_ER_readShortCopy_47

set_option maxHeartbeats 4000000 in
set_option maxRecDepth 100000 in
theorem zk_D_takeTwo_E (l : Launch) (D : va_G) (cB cI cJ : ClassId) (sa : Nat) (sb : Nat) (da : Nat) (db : Nat) (pa : Nat) (pb : Nat) (ha : Nat) (ea : Nat) (sn : Int32) (sl : Nat) (sf : Nat → Int32) (dn : Int32) (dl : Nat) (df : Nat → Int32) (pn : Int32) (pl : Nat) (pf : Nat → Int32) (ra : Int32) (rr : Int32) (rp : Int32) (r : Int32) (ra' : Int32) (rr' : Int32) (h : zf_D_takeTwo sn sl sf ra rr = some (r, ra', rr')) : CoI l zy_D_takeTwo zw_D_takeTwo { frames := 2, cells := 0, slots := 0, locals := 43 } D cB cI cJ [.ref ea] [(sa, .inr (4, [.ref sb, .int sn])), (sb, .inl (cB, sl, .inl sf)), (da, .inr (4, [.ref db, .int dn])), (db, .inl (cB, dl, .inl df)), (pa, .inr (4, [.ref pb, .int pn])), (pb, .inl (cB, pl, .inl pf)), (ha, .inr (2, [.ref pa, .ref da])), (ea, .inr (0, [.ref sa, .ref da, .ref ha, .int ra, .int rr, .int rp]))] r [(sa, .inr (4, [.ref sb, .int sn])), (sb, .inl (cB, sl, .inl sf)), (da, .inr (4, [.ref db, .int dn])), (db, .inl (cB, dl, .inl df)), (pa, .inr (4, [.ref pb, .int pn])), (pb, .inl (cB, pl, .inl pf)), (ha, .inr (2, [.ref pa, .ref da])), (ea, .inr (0, [.ref sa, .ref da, .ref ha, .int ra', .int rr', .int rp]))] := by
  unfold zf_D_takeTwo at h
  refine CoI.ofG (cc := zc_D_takeTwo) (maxL := 2) (own := RX4) (by decide) rfl rfl rfl trivial (Nat.le_of_ble_eq_true rfl) (L0 := [(0, .ref ea)]) rfl (fun k F E => ?_)
  refine G_aload_n F zd_D_takeTwo_0 rfl (j := 0) rfl ?_
  obtain ⟨v1, v2, v3, hc1, h⟩ := bc3_s h
  refine G_calliU F (zk_D_take_E l D cB cI cJ sa sb da db pa pb ha ea sn sl sf dn dl df pn pl pf ra rr rp v1 v2 v3 hc1) (rest := []) [0, 1, 2, 3, 4, 5, 6, 7] rfl rfl rfl (ws' := [(sa, .inr (4, [.ref sb, .int sn])), (sb, .inl (cB, sl, .inl sf)), (da, .inr (4, [.ref db, .int dn])), (db, .inl (cB, dl, .inl df)), (pa, .inr (4, [.ref pb, .int pn])), (pb, .inl (cB, pl, .inl pf)), (ha, .inr (2, [.ref pa, .ref da])), (ea, .inr (0, [.ref sa, .ref da, .ref ha, .int v2, .int v3, .int rp]))]) rfl (q0 := 7) rfl (x := ⟨"PressSuite$Reader", "take", "()I"⟩) cv_D_48_ER rfl rfl ⟨Nat.le_of_ble_eq_true rfl, Nat.le_of_ble_eq_true rfl⟩ hf0 rfl (Nat.le_of_ble_eq_true rfl) zd_D_takeTwo_1 rfl ?_
  refine G_istore_n F zd_D_takeTwo_4 rfl (by decide) (L' := [(1, .int v1), (0, .ref ea)]) rfl ?_
  refine G_iload_n F zd_D_takeTwo_5 rfl (j := 0) rfl ?_
  refine G_aload_n F zd_D_takeTwo_6 rfl (j := 1) rfl ?_
  obtain ⟨v4, v5, v6, hc7, h⟩ := bc3_s h
  refine G_calliU F (zk_D_take_E l D cB cI cJ sa sb da db pa pb ha ea sn sl sf dn dl df pn pl pf v2 v3 rp v4 v5 v6 hc7) (rest := [.int v1]) [0, 1, 2, 3, 4, 5, 6, 7] rfl rfl rfl (ws' := [(sa, .inr (4, [.ref sb, .int sn])), (sb, .inl (cB, sl, .inl sf)), (da, .inr (4, [.ref db, .int dn])), (db, .inl (cB, dl, .inl df)), (pa, .inr (4, [.ref pb, .int pn])), (pb, .inl (cB, pl, .inl pf)), (ha, .inr (2, [.ref pa, .ref da])), (ea, .inr (0, [.ref sa, .ref da, .ref ha, .int v5, .int v6, .int rp]))]) rfl (q0 := 7) rfl (x := ⟨"PressSuite$Reader", "take", "()I"⟩) cv_D_48_ER rfl rfl ⟨Nat.le_of_ble_eq_true rfl, Nat.le_of_ble_eq_true rfl⟩ hf0 rfl (Nat.le_of_ble_eq_true rfl) zd_D_takeTwo_7 rfl ?_
  refine G_bipush (v := (8 : Int32)) F zd_D_takeTwo_10 (by decide) ?_
  refine G_ishl F zd_D_takeTwo_12 ?_
  refine G_ior F zd_D_takeTwo_13 ?_
  obtain ⟨q1, q2, q3⟩ := inj3 h
  subst q1
  subst q2
  subst q3
  exact E 14 _ zd_D_takeTwo_14

set_option maxHeartbeats 4000000 in
set_option maxRecDepth 100000 in
theorem zk_ER_readLongCopy (l : Launch) (D : va_G) (cB cI cJ : ClassId) (sa : Nat) (sb : Nat) (da : Nat) (db : Nat) (pa : Nat) (pb : Nat) (ha : Nat) (ea : Nat) (sn : Int32) (sl : Nat) (sf : Nat → Int32) (dn : Int32) (dl : Nat) (df : Nat → Int32) (pn : Int32) (pl : Nat) (pf : Nat → Int32) (ra : Int32) (rr : Int32) (rp : Int32) (i1 : Int32) (i2 : Int32) (dn' : Int32) (df' : Nat → Int32) (ra' : Int32) (rr' : Int32) (h : zf_ER_readLongCopy sn sl sf dn dl df pn pl pf ra rr rp i1 i2 = some (dn', df', ra', rr')) : CoV l zy_ER_readLongCopy zw_ER_readLongCopy { frames := 3, cells := 0, slots := 0, locals := 65 } D cB cI cJ [.ref ea, .int i1, .int i2] [(sa, .inr (4, [.ref sb, .int sn])), (sb, .inl (cB, sl, .inl sf)), (da, .inr (4, [.ref db, .int dn])), (db, .inl (cB, dl, .inl df)), (pa, .inr (4, [.ref pb, .int pn])), (pb, .inl (cB, pl, .inl pf)), (ha, .inr (2, [.ref pa, .ref da])), (ea, .inr (0, [.ref sa, .ref da, .ref ha, .int ra, .int rr, .int rp]))] [(sa, .inr (4, [.ref sb, .int sn])), (sb, .inl (cB, sl, .inl sf)), (da, .inr (4, [.ref db, .int dn'])), (db, .inl (cB, dl, .inl df')), (pa, .inr (4, [.ref pb, .int pn])), (pb, .inl (cB, pl, .inl pf)), (ha, .inr (2, [.ref pa, .ref da])), (ea, .inr (0, [.ref sa, .ref da, .ref ha, .int ra', .int rr', .int rp]))] := by
  unfold zf_ER_readLongCopy at h
  refine CoV.ofG (cc := zc_ER_readLongCopy) (maxL := 5) (own := RX0) (by decide) rfl rfl rfl trivial (Nat.le_of_ble_eq_true rfl) (L0 := [(0, .ref ea), (1, .int i1), (2, .int i2)]) rfl (fun k F E => ?_)
  refine G_aload_n F zd_ER_readLongCopy_0 rfl (j := 0) rfl ?_
  obtain ⟨v1, v2, v3, hc1, h⟩ := bc3_s h
  refine G_calliU F (zk_D_takeTwo_E l D cB cI cJ sa sb da db pa pb ha ea sn sl sf dn dl df pn pl pf ra rr rp v1 v2 v3 hc1) (rest := []) [0, 1, 2, 3, 4, 5, 6, 7] rfl rfl rfl (ws' := [(sa, .inr (4, [.ref sb, .int sn])), (sb, .inl (cB, sl, .inl sf)), (da, .inr (4, [.ref db, .int dn])), (db, .inl (cB, dl, .inl df)), (pa, .inr (4, [.ref pb, .int pn])), (pb, .inl (cB, pl, .inl pf)), (ha, .inr (2, [.ref pa, .ref da])), (ea, .inr (0, [.ref sa, .ref da, .ref ha, .int v2, .int v3, .int rp]))]) rfl (q0 := 7) rfl (x := ⟨"PressSuite$ElementReader", "takeTwo", "()I"⟩) cv_ER_76_ER rfl rfl ⟨Nat.le_of_ble_eq_true rfl, Nat.le_of_ble_eq_true rfl⟩ hf0 rfl (Nat.le_of_ble_eq_true rfl) zd_ER_readLongCopy_1 rfl ?_
  refine G_istore_n F zd_ER_readLongCopy_4 rfl (by decide) (L' := [(3, .int v1), (0, .ref ea), (1, .int i1), (2, .int i2)]) rfl ?_
  refine G_aload_n F zd_ER_readLongCopy_5 rfl (j := 1) rfl ?_
  refine G_iload_n F zd_ER_readLongCopy_6 rfl (j := 0) rfl ?_
  refine G_iload_n F zd_ER_readLongCopy_7 rfl (j := 3) rfl ?_
  refine G_iconst (v := (1 : Int32)) F zd_ER_readLongCopy_8 (by decide) ?_
  refine G_iadd F zd_ER_readLongCopy_9 ?_
  obtain ⟨v4, hc10, h⟩ := bc1_s h
  refine G_callvU F (zk_D_requireDistance_E l D cB cI cJ sa sb da db pa pb ha ea sn sl sf dn dl df pn pl pf v2 v3 rp v1 (i2 + (1 : Int32)) v4 hc10) (rest := []) [0, 1, 2, 3, 4, 5, 6, 7] rfl rfl rfl (ws' := [(sa, .inr (4, [.ref sb, .int sn])), (sb, .inl (cB, sl, .inl sf)), (da, .inr (4, [.ref db, .int dn])), (db, .inl (cB, dl, .inl df)), (pa, .inr (4, [.ref pb, .int pn])), (pb, .inl (cB, pl, .inl pf)), (ha, .inr (2, [.ref pa, .ref da])), (ea, .inr (0, [.ref sa, .ref da, .ref ha, .int v2, .int v4, .int rp]))]) rfl (q0 := 7) rfl (x := ⟨"PressSuite$ElementReader", "requireDistance", "(II)V"⟩) cv_ER_70_ER rfl rfl ⟨Nat.le_of_ble_eq_true rfl, Nat.le_of_ble_eq_true rfl⟩ hf0 rfl (Nat.le_of_ble_eq_true rfl) zd_ER_readLongCopy_10 rfl ?_
  refine G_iload_n F zd_ER_readLongCopy_13 rfl (j := 2) rfl ?_
  refine G_iconst (v := (2 : Int32)) F zd_ER_readLongCopy_14 (by decide) ?_
  refine G_ishr F zd_ER_readLongCopy_15 ?_
  refine G_iconst (v := (1 : Int32)) F zd_ER_readLongCopy_16 (by decide) ?_
  refine G_iadd F zd_ER_readLongCopy_17 ?_
  obtain ⟨v5, ev5, h⟩ := bnd_s h
  refine G_topi ev5 ?_
  refine G_istore F zd_ER_readLongCopy_18 (by decide) (L' := [(4, .int v5), (3, .int v1), (0, .ref ea), (1, .int i1), (2, .int i2)]) rfl ?_
  refine G_aload_n F zd_ER_readLongCopy_20 rfl (j := 2) rfl ?_
  refine G_iload F zd_ER_readLongCopy_21 (j := 0) rfl ?_
  refine G_aload_n F zd_ER_readLongCopy_23 rfl (j := 2) rfl ?_
  refine G_get F fa_ER_15_ER (q := 7) zd_ER_readLongCopy_24 rfl rfl ?_
  refine G_iload_n F zd_ER_readLongCopy_27 rfl (j := 4) rfl ?_
  obtain ⟨v6, hc28, h⟩ := bc1_s h
  refine G_callvU F (zk_D_requireRoom_E l D cB cI cJ sa sb da db pa pb ha ea sn sl sf dn dl df pn pl pf v2 v4 rp v5 rp i2 v6 hc28) (rest := []) [0, 1, 2, 3, 4, 5, 6, 7] rfl rfl rfl (ws' := [(sa, .inr (4, [.ref sb, .int sn])), (sb, .inl (cB, sl, .inl sf)), (da, .inr (4, [.ref db, .int dn])), (db, .inl (cB, dl, .inl df)), (pa, .inr (4, [.ref pb, .int pn])), (pb, .inl (cB, pl, .inl pf)), (ha, .inr (2, [.ref pa, .ref da])), (ea, .inr (0, [.ref sa, .ref da, .ref ha, .int v2, .int v6, .int rp]))]) rfl (q0 := 7) rfl (x := ⟨"PressSuite$ElementReader", "requireRoom", "(III)V"⟩) cv_ER_62_ER rfl rfl ⟨Nat.le_of_ble_eq_true rfl, Nat.le_of_ble_eq_true rfl⟩ hf0 rfl (Nat.le_of_ble_eq_true rfl) zd_ER_readLongCopy_28 rfl ?_
  refine G_aload_n F zd_ER_readLongCopy_31 rfl (j := 2) rfl ?_
  refine G_iload_n F zd_ER_readLongCopy_32 rfl (j := 1) rfl ?_
  refine G_iload F zd_ER_readLongCopy_33 (j := 0) rfl ?_
  obtain ⟨v7, v8, hc35, h⟩ := bc2_s h
  refine G_callvU F (zk_D_copyBack_E l D cB cI cJ sa sb da db pa pb ha ea sn sl sf dn dl df pn pl pf v2 v6 rp v1 v5 v7 v8 hc35) (rest := []) [0, 1, 2, 3, 4, 5, 6, 7] rfl rfl rfl (ws' := [(sa, .inr (4, [.ref sb, .int sn])), (sb, .inl (cB, sl, .inl sf)), (da, .inr (4, [.ref db, .int v7])), (db, .inl (cB, dl, .inl v8)), (pa, .inr (4, [.ref pb, .int pn])), (pb, .inl (cB, pl, .inl pf)), (ha, .inr (2, [.ref pa, .ref da])), (ea, .inr (0, [.ref sa, .ref da, .ref ha, .int v2, .int v6, .int rp]))]) rfl (q0 := 7) rfl (x := ⟨"PressSuite$ElementReader", "copyBack", "(II)V"⟩) cv_ER_73_ER rfl rfl ⟨Nat.le_of_ble_eq_true rfl, Nat.le_of_ble_eq_true rfl⟩ hf0 rfl (Nat.le_of_ble_eq_true rfl) zd_ER_readLongCopy_35 rfl ?_
  obtain ⟨q1, q2, q3, q4⟩ := inj4 h
  subst q1
  subst q2
  subst q3
  subst q4
  exact E 38 _ zd_ER_readLongCopy_38

set_option maxHeartbeats 4000000 in
set_option maxRecDepth 100000 in
theorem zk_ER_readElement (l : Launch) (D : va_G) (cB cI cJ : ClassId) (sa : Nat) (sb : Nat) (da : Nat) (db : Nat) (pa : Nat) (pb : Nat) (ha : Nat) (ea : Nat) (sn : Int32) (sl : Nat) (sf : Nat → Int32) (dn : Int32) (dl : Nat) (df : Nat → Int32) (pn : Int32) (pl : Nat) (pf : Nat → Int32) (ra : Int32) (rr : Int32) (rp : Int32) (dn' : Int32) (df' : Nat → Int32) (ra' : Int32) (rr' : Int32) (h : zf_ER_readElement sn sl sf dn dl df pn pl pf ra rr rp = some (dn', df', ra', rr')) : CoV l zy_ER_readElement zw_ER_readElement { frames := 4, cells := 0, slots := 0, locals := 89 } D cB cI cJ [.ref ea] [(sa, .inr (4, [.ref sb, .int sn])), (sb, .inl (cB, sl, .inl sf)), (da, .inr (4, [.ref db, .int dn])), (db, .inl (cB, dl, .inl df)), (pa, .inr (4, [.ref pb, .int pn])), (pb, .inl (cB, pl, .inl pf)), (ha, .inr (2, [.ref pa, .ref da])), (ea, .inr (0, [.ref sa, .ref da, .ref ha, .int ra, .int rr, .int rp]))] [(sa, .inr (4, [.ref sb, .int sn])), (sb, .inl (cB, sl, .inl sf)), (da, .inr (4, [.ref db, .int dn'])), (db, .inl (cB, dl, .inl df')), (pa, .inr (4, [.ref pb, .int pn])), (pb, .inl (cB, pl, .inl pf)), (ha, .inr (2, [.ref pa, .ref da])), (ea, .inr (0, [.ref sa, .ref da, .ref ha, .int ra', .int rr', .int rp]))] := by
  unfold zf_ER_readElement at h
  refine CoV.ofG (cc := zc_ER_readElement) (maxL := 3) (own := RX0) (by decide) rfl rfl rfl trivial (Nat.le_of_ble_eq_true rfl) (L0 := [(0, .ref ea)]) rfl (fun k F E => ?_)
  refine G_aload_n F zd_ER_readElement_0 rfl (j := 0) rfl ?_
  refine G_get F fa_ER_49_ER (q := 7) zd_ER_readElement_1 rfl rfl ?_
  refine G_istore_n F zd_ER_readElement_4 rfl (by decide) (L' := [(1, .int ra), (0, .ref ea)]) rfl ?_
  refine G_aload_n F zd_ER_readElement_5 rfl (j := 1) rfl ?_
  obtain ⟨v1, v2, v3, hc6, h⟩ := bc3_s h
  refine G_calliU F (zk_D_take_E l D cB cI cJ sa sb da db pa pb ha ea sn sl sf dn dl df pn pl pf ra rr rp v1 v2 v3 hc6) (rest := []) [0, 1, 2, 3, 4, 5, 6, 7] rfl rfl rfl (ws' := [(sa, .inr (4, [.ref sb, .int sn])), (sb, .inl (cB, sl, .inl sf)), (da, .inr (4, [.ref db, .int dn])), (db, .inl (cB, dl, .inl df)), (pa, .inr (4, [.ref pb, .int pn])), (pb, .inl (cB, pl, .inl pf)), (ha, .inr (2, [.ref pa, .ref da])), (ea, .inr (0, [.ref sa, .ref da, .ref ha, .int v2, .int v3, .int rp]))]) rfl (q0 := 7) rfl (x := ⟨"PressSuite$ElementReader", "take", "()I"⟩) cv_ER_46_ER rfl rfl ⟨Nat.le_of_ble_eq_true rfl, Nat.le_of_ble_eq_true rfl⟩ hf0 rfl (Nat.le_of_ble_eq_true rfl) zd_ER_readElement_6 rfl ?_
  refine G_istore_n F zd_ER_readElement_9 rfl (by decide) (L' := [(2, .int v1), (1, .int ra), (0, .ref ea)]) rfl ?_
  refine G_iload_n F zd_ER_readElement_10 rfl (j := 0) rfl ?_
  refine G_iconst (v := (3 : Int32)) F zd_ER_readElement_11 (by decide) ?_
  refine G_iand F zd_ER_readElement_12 ?_
  refine G_tsw3 F 40 51 60 69 zd_ER_readElement_13 rfl rfl rfl rfl (fun h0 => ?_) (fun h0 h1 => ?_) (fun h0 h1 h2 => ?_) (fun h0 h1 h2 => ?_)
  · have h := iP h h0
    refine G_aload_n F zd_ER_readElement_40 rfl (j := 2) rfl ?_
    refine G_iload_n F zd_ER_readElement_41 rfl (j := 0) rfl ?_
    refine G_iconst (v := (2 : Int32)) F zd_ER_readElement_42 (by decide) ?_
    refine G_ishr F zd_ER_readElement_43 ?_
    refine G_iload_n F zd_ER_readElement_44 rfl (j := 1) rfl ?_
    obtain ⟨v4, v5, v6, v7, hc45, h⟩ := bc4_s h
    refine G_callvV F (zk_ER_readLiterals l D cB cI cJ sa sb da db pa pb ha ea sn sl sf dn dl df pn pl pf v2 v3 rp (v1 >>> ((2 : Int32) &&& 31)) ra v4 v5 v6 v7 hc45) (rest := []) [0, 1, 2, 3, 4, 5, 6, 7] rfl rfl rfl (ws' := [(sa, .inr (4, [.ref sb, .int sn])), (sb, .inl (cB, sl, .inl sf)), (da, .inr (4, [.ref db, .int v4])), (db, .inl (cB, dl, .inl v5)), (pa, .inr (4, [.ref pb, .int pn])), (pb, .inl (cB, pl, .inl pf)), (ha, .inr (2, [.ref pa, .ref da])), (ea, .inr (0, [.ref sa, .ref da, .ref ha, .int v6, .int v7, .int rp]))]) rfl (q0 := 7) rfl cv_ER_52_ER rfl rfl ⟨Nat.le_of_ble_eq_true rfl, Nat.le_of_ble_eq_true rfl⟩ hf0 rfl (Nat.le_of_ble_eq_true rfl) zd_ER_readElement_45 rfl ?_
    refine G_goto F zd_ER_readElement_48 (tgt := 75) rfl ?_
    obtain ⟨q1, q2, q3, q4⟩ := inj4 h
    subst q1
    subst q2
    subst q3
    subst q4
    exact E 75 _ zd_ER_readElement_75
  · have h := h
    have h := iN h h0
    have h := iP h h1
    refine G_aload_n F zd_ER_readElement_51 rfl (j := 2) rfl ?_
    refine G_iload_n F zd_ER_readElement_52 rfl (j := 0) rfl ?_
    refine G_iload_n F zd_ER_readElement_53 rfl (j := 1) rfl ?_
    obtain ⟨v8, v9, v10, v11, hc54, h⟩ := bc4_s h
    refine G_callvV F (zk_ER_readShortCopy l D cB cI cJ sa sb da db pa pb ha ea sn sl sf dn dl df pn pl pf v2 v3 rp v1 ra v8 v9 v10 v11 hc54) (rest := []) [0, 1, 2, 3, 4, 5, 6, 7] rfl rfl rfl (ws' := [(sa, .inr (4, [.ref sb, .int sn])), (sb, .inl (cB, sl, .inl sf)), (da, .inr (4, [.ref db, .int v8])), (db, .inl (cB, dl, .inl v9)), (pa, .inr (4, [.ref pb, .int pn])), (pb, .inl (cB, pl, .inl pf)), (ha, .inr (2, [.ref pa, .ref da])), (ea, .inr (0, [.ref sa, .ref da, .ref ha, .int v10, .int v11, .int rp]))]) rfl (q0 := 7) rfl cv_ER_56_ER rfl rfl ⟨Nat.le_of_ble_eq_true rfl, Nat.le_of_ble_eq_true rfl⟩ hf0 rfl (Nat.le_of_ble_eq_true rfl) zd_ER_readElement_54 rfl ?_
    refine G_goto F zd_ER_readElement_57 (tgt := 75) rfl ?_
    obtain ⟨q1, q2, q3, q4⟩ := inj4 h
    subst q1
    subst q2
    subst q3
    subst q4
    exact E 75 _ zd_ER_readElement_75
  · have h := h
    have h := iN h h0
    have h := iN h h1
    have h := iP h h2
    refine G_aload_n F zd_ER_readElement_60 rfl (j := 2) rfl ?_
    refine G_iload_n F zd_ER_readElement_61 rfl (j := 0) rfl ?_
    refine G_iload_n F zd_ER_readElement_62 rfl (j := 1) rfl ?_
    obtain ⟨v12, v13, v14, v15, hc63, h⟩ := bc4_s h
    refine G_callvV F (zk_ER_readLongCopy l D cB cI cJ sa sb da db pa pb ha ea sn sl sf dn dl df pn pl pf v2 v3 rp v1 ra v12 v13 v14 v15 hc63) (rest := []) [0, 1, 2, 3, 4, 5, 6, 7] rfl rfl rfl (ws' := [(sa, .inr (4, [.ref sb, .int sn])), (sb, .inl (cB, sl, .inl sf)), (da, .inr (4, [.ref db, .int v12])), (db, .inl (cB, dl, .inl v13)), (pa, .inr (4, [.ref pb, .int pn])), (pb, .inl (cB, pl, .inl pf)), (ha, .inr (2, [.ref pa, .ref da])), (ea, .inr (0, [.ref sa, .ref da, .ref ha, .int v14, .int v15, .int rp]))]) rfl (q0 := 7) rfl cv_ER_59_ER rfl rfl ⟨Nat.le_of_ble_eq_true rfl, Nat.le_of_ble_eq_true rfl⟩ hf0 rfl (Nat.le_of_ble_eq_true rfl) zd_ER_readElement_63 rfl ?_
    refine G_goto F zd_ER_readElement_66 (tgt := 75) rfl ?_
    obtain ⟨q1, q2, q3, q4⟩ := inj4 h
    subst q1
    subst q2
    subst q3
    subst q4
    exact E 75 _ zd_ER_readElement_75
  · have h := iN h h0
    have h := iN h h1
    have h := iN h h2
    refine G_aload_n F zd_ER_readElement_69 rfl (j := 2) rfl ?_
    refine G_iconst (v := (1 : Int32)) F zd_ER_readElement_70 (by decide) ?_
    refine G_iload_n F zd_ER_readElement_71 rfl (j := 1) rfl ?_
    obtain ⟨v16, hc72, h⟩ := bc1_s h
    refine G_callvU F (zk_D_refuseIf_E l D cB cI cJ sa sb da db pa pb ha ea sn sl sf dn dl df pn pl pf v2 v3 rp (1 : Int32) ra v16 hc72) (rest := []) [0, 1, 2, 3, 4, 5, 6, 7] rfl rfl rfl (ws' := [(sa, .inr (4, [.ref sb, .int sn])), (sb, .inl (cB, sl, .inl sf)), (da, .inr (4, [.ref db, .int dn])), (db, .inl (cB, dl, .inl df)), (pa, .inr (4, [.ref pb, .int pn])), (pb, .inl (cB, pl, .inl pf)), (ha, .inr (2, [.ref pa, .ref da])), (ea, .inr (0, [.ref sa, .ref da, .ref ha, .int v2, .int v16, .int rp]))]) rfl (q0 := 7) rfl (x := ⟨"PressSuite$ElementReader", "refuseIf", "(ZI)V"⟩) cv_ER_42_ER rfl rfl ⟨Nat.le_of_ble_eq_true rfl, Nat.le_of_ble_eq_true rfl⟩ hf0 rfl (Nat.le_of_ble_eq_true rfl) zd_ER_readElement_72 rfl ?_
    obtain ⟨q1, q2, q3, q4⟩ := inj4 h
    subst q1
    subst q2
    subst q3
    subst q4
    exact E 75 _ zd_ER_readElement_75

set_option maxHeartbeats 4000000 in
set_option maxRecDepth 100000 in
theorem zl_ER_readAll_10 {k : GC} {l : Launch} {D : va_G} {cB cI cJ : ClassId} (F : GF k l { frames := 5, cells := 0, slots := 0, locals := 111 } zc_ER_readAll 2 RX0 D cB cI cJ) (sn : Int32) (sl : Nat) (sf : Nat → Int32) (dl : Nat) (pn : Int32) (pl : Nat) (pf : Nat → Int32) (sa : Nat) (sb : Nat) (da : Nat) (db : Nat) (pa : Nat) (pb : Nat) (ha : Nat) (ea : Nat) (v1 : Int32) : ∀ (n : Nat) (v4 : Int32) (v5 : Int32) (v6 : Nat → Int32) (v7 : Int32) (v8 : Int32) (w4 : Int32) (w5 : Int32) (w6 : Nat → Int32) (w7 : Int32) (w8 : Int32), zf_ER_readAll_L10 sn sl sf dl pn pl pf v1 n v4 v5 v6 v7 v8 = some (w4, w5, w6, w7, w8) → G D 2 k 0 0 45 [(0, .ref ea), (1, .int w4)] [] [(sa, .inr (4, [.ref sb, .int sn])), (sb, .inl (cB, sl, .inl sf)), (da, .inr (4, [.ref db, .int w5])), (db, .inl (cB, dl, .inl w6)), (pa, .inr (4, [.ref pb, .int pn])), (pb, .inl (cB, pl, .inl pf)), (ha, .inr (2, [.ref pa, .ref da])), (ea, .inr (0, [.ref sa, .ref da, .ref ha, .int w7, .int w8, .int v1]))] → G D 2 k 0 0 10 [(0, .ref ea), (1, .int v4)] [] [(sa, .inr (4, [.ref sb, .int sn])), (sb, .inl (cB, sl, .inl sf)), (da, .inr (4, [.ref db, .int v5])), (db, .inl (cB, dl, .inl v6)), (pa, .inr (4, [.ref pb, .int pn])), (pb, .inl (cB, pl, .inl pf)), (ha, .inr (2, [.ref pa, .ref da])), (ea, .inr (0, [.ref sa, .ref da, .ref ha, .int v7, .int v8, .int v1]))] := by
  intro n
  induction n with
  | zero =>
    intro v4 v5 v6 v7 v8 w4 w5 w6 w7 w8 h
    rw [zf_ER_readAll_L10_0] at h
    cases h
  | succ n ih =>
    intro v4 v5 v6 v7 v8 w4 w5 w6 w7 w8 h hx
    have h := (zf_ER_readAll_L10_s sn sl sf dl pn pl pf v1 n v4 v5 v6 v7 v8).symm.trans h
    refine G_iload_n F zd_ER_readAll_10 rfl (j := 1) rfl ?_
    refine G_aload_n F zd_ER_readAll_11 rfl (j := 0) rfl ?_
    refine G_get F fa_ER_19_ER (q := 7) zd_ER_readAll_12 rfl rfl ?_
    refine G_get F fa_ER_23_R (q := 0) zd_ER_readAll_15 rfl rfl ?_
    refine G_icmp_ge F zd_ER_readAll_18 (tgt := 45) rfl (fun h0 => ?_) (fun h0 => ?_)
    · have h := iP h h0
      obtain ⟨q1, q2, q3, q4, q5⟩ := inj5 h
      subst q1
      subst q2
      subst q3
      subst q4
      subst q5
      exact G_lv [0, 1] rfl hx
    · have h := iN h h0
      refine G_aload_n F zd_ER_readAll_21 rfl (j := 0) rfl ?_
      obtain ⟨v9, hc22, h⟩ := bc1_s h
      refine G_calliU0 F (zk_D_atEnd_E l D cB cI cJ sa sb da db pa pb ha ea sn sl sf v5 dl v6 pn pl pf v7 v8 v1 v9 hc22) (rest := []) [0, 1, 2, 3, 4, 5, 6, 7] rfl rfl (q0 := 7) rfl (x := ⟨"PressSuite$ElementReader", "atEnd", "()Z"⟩) cv_ER_28_ER rfl rfl ⟨Nat.le_of_ble_eq_true rfl, Nat.le_of_ble_eq_true rfl⟩ hf0 rfl (Nat.le_of_ble_eq_true rfl) zd_ER_readAll_22 rfl ?_
      refine G_if_ne F zd_ER_readAll_25 (tgt := 45) rfl (fun h0 => ?_) (fun h0 => ?_)
      · have h := iN h h0
        obtain ⟨q1, q2, q3, q4, q5⟩ := inj5 h
        subst q1
        subst q2
        subst q3
        subst q4
        subst q5
        exact G_lv [0, 1] rfl hx
      · have h := iP h h0
        refine G_aload_n F zd_ER_readAll_28 rfl (j := 0) rfl ?_
        obtain ⟨v10, hc29, h⟩ := bc1_s h
        refine G_calliU0 F (zk_D_refused_E l D cB cI cJ sa sb da db pa pb ha ea sn sl sf v5 dl v6 pn pl pf v7 v8 v1 v10 hc29) (rest := []) [0, 1, 2, 3, 4, 5, 6, 7] rfl rfl (q0 := 7) rfl (x := ⟨"PressSuite$ElementReader", "refused", "()Z"⟩) cv_ER_32_ER rfl rfl ⟨Nat.le_of_ble_eq_true rfl, Nat.le_of_ble_eq_true rfl⟩ hf0 rfl (Nat.le_of_ble_eq_true rfl) zd_ER_readAll_29 rfl ?_
        refine G_if_ne F zd_ER_readAll_32 (tgt := 45) rfl (fun h0 => ?_) (fun h0 => ?_)
        · have h := iN h h0
          obtain ⟨q1, q2, q3, q4, q5⟩ := inj5 h
          subst q1
          subst q2
          subst q3
          subst q4
          subst q5
          exact G_lv [0, 1] rfl hx
        · have h := iP h h0
          refine G_aload_n F zd_ER_readAll_35 rfl (j := 0) rfl ?_
          obtain ⟨v11, v12, v13, v14, hc36, h⟩ := bc4_s h
          refine G_callvV F (zk_ER_readElement l D cB cI cJ sa sb da db pa pb ha ea sn sl sf v5 dl v6 pn pl pf v7 v8 v1 v11 v12 v13 v14 hc36) (rest := []) [0, 1, 2, 3, 4, 5, 6, 7] rfl rfl rfl (ws' := [(sa, .inr (4, [.ref sb, .int sn])), (sb, .inl (cB, sl, .inl sf)), (da, .inr (4, [.ref db, .int v11])), (db, .inl (cB, dl, .inl v12)), (pa, .inr (4, [.ref pb, .int pn])), (pb, .inl (cB, pl, .inl pf)), (ha, .inr (2, [.ref pa, .ref da])), (ea, .inr (0, [.ref sa, .ref da, .ref ha, .int v13, .int v14, .int v1]))]) rfl (q0 := 7) rfl cv_ER_35_ER rfl rfl ⟨Nat.le_of_ble_eq_true rfl, Nat.le_of_ble_eq_true rfl⟩ hf0 rfl (Nat.le_of_ble_eq_true rfl) zd_ER_readAll_36 rfl ?_
          obtain ⟨v15, ev15, h⟩ := bnd_s h
          refine G_iinc F zd_ER_readAll_39 (j := 1) rfl (w := (1 : Int32)) (by decide) ev15 (by decide) (L' := [(1, .int v15), (0, .ref ea)]) rfl ?_
          refine G_goto F zd_ER_readAll_42 (tgt := 10) rfl ?_
          exact G_lv [1, 0] rfl (ih _ _ _ _ _ _ _ _ _ _ h hx)
set_option maxHeartbeats 4000000 in
set_option maxRecDepth 100000 in
theorem zk_ER_readAll (l : Launch) (D : va_G) (cB cI cJ : ClassId) (sa : Nat) (sb : Nat) (da : Nat) (db : Nat) (pa : Nat) (pb : Nat) (ha : Nat) (ea : Nat) (sn : Int32) (sl : Nat) (sf : Nat → Int32) (dn : Int32) (dl : Nat) (df : Nat → Int32) (pn : Int32) (pl : Nat) (pf : Nat → Int32) (ra : Int32) (rr : Int32) (rp : Int32) (dn' : Int32) (df' : Nat → Int32) (ra' : Int32) (rr' : Int32) (rp' : Int32) (h : zf_ER_readAll sn sl sf dn dl df pn pl pf ra rr = some (dn', df', ra', rr', rp')) : CoV l zy_ER_readAll zw_ER_readAll { frames := 5, cells := 0, slots := 0, locals := 111 } D cB cI cJ [.ref ea] [(sa, .inr (4, [.ref sb, .int sn])), (sb, .inl (cB, sl, .inl sf)), (da, .inr (4, [.ref db, .int dn])), (db, .inl (cB, dl, .inl df)), (pa, .inr (4, [.ref pb, .int pn])), (pb, .inl (cB, pl, .inl pf)), (ha, .inr (2, [.ref pa, .ref da])), (ea, .inr (0, [.ref sa, .ref da, .ref ha, .int ra, .int rr, .int rp]))] [(sa, .inr (4, [.ref sb, .int sn])), (sb, .inl (cB, sl, .inl sf)), (da, .inr (4, [.ref db, .int dn'])), (db, .inl (cB, dl, .inl df')), (pa, .inr (4, [.ref pb, .int pn])), (pb, .inl (cB, pl, .inl pf)), (ha, .inr (2, [.ref pa, .ref da])), (ea, .inr (0, [.ref sa, .ref da, .ref ha, .int ra', .int rr', .int rp']))] := by
  unfold zf_ER_readAll at h
  refine CoV.ofG (cc := zc_ER_readAll) (maxL := 2) (own := RX0) (by decide) rfl rfl rfl trivial (Nat.le_of_ble_eq_true rfl) (L0 := [(0, .ref ea)]) rfl (fun k F E => ?_)
  refine G_aload_n F zd_ER_readAll_0 rfl (j := 0) rfl ?_
  refine G_aload_n F zd_ER_readAll_1 rfl (j := 0) rfl ?_
  obtain ⟨v1, v2, v3, hc2, h⟩ := bc3_s h
  refine G_calliV F (zk_ER_takeSize l D cB cI cJ sa sb da db pa pb ha ea sn sl sf dn dl df pn pl pf ra rr rp v1 v2 v3 hc2) (rest := [.ref ea]) [0, 1, 2, 3, 4, 5, 6, 7] rfl rfl rfl (ws' := [(sa, .inr (4, [.ref sb, .int sn])), (sb, .inl (cB, sl, .inl sf)), (da, .inr (4, [.ref db, .int dn])), (db, .inl (cB, dl, .inl df)), (pa, .inr (4, [.ref pb, .int pn])), (pb, .inl (cB, pl, .inl pf)), (ha, .inr (2, [.ref pa, .ref da])), (ea, .inr (0, [.ref sa, .ref da, .ref ha, .int v2, .int v3, .int rp]))]) rfl (q0 := 7) rfl cv_ER_9_ER rfl rfl ⟨Nat.le_of_ble_eq_true rfl, Nat.le_of_ble_eq_true rfl⟩ hf0 rfl (Nat.le_of_ble_eq_true rfl) zd_ER_readAll_2 rfl ?_
  refine G_put F fp_ER_15_ER (q := 7) zd_ER_readAll_5 rfl (Nat.le_of_ble_eq_true rfl) (ws' := [(sa, .inr (4, [.ref sb, .int sn])), (sb, .inl (cB, sl, .inl sf)), (da, .inr (4, [.ref db, .int dn])), (db, .inl (cB, dl, .inl df)), (pa, .inr (4, [.ref pb, .int pn])), (pb, .inl (cB, pl, .inl pf)), (ha, .inr (2, [.ref pa, .ref da])), (ea, .inr (0, [.ref sa, .ref da, .ref ha, .int v2, .int v3, .int v1]))]) rfl ?_
  refine G_iconst (v := (0 : Int32)) F zd_ER_readAll_8 (by decide) ?_
  refine G_istore_n F zd_ER_readAll_9 rfl (by decide) (L' := [(1, .int (0 : Int32)), (0, .ref ea)]) rfl ?_
  obtain ⟨x16, x17, x18, x19, x20, hl10, h⟩ := bc5_s h
  refine G_lv [1, 0] rfl (zl_ER_readAll_10 F sn sl sf dl pn pl pf sa sb da db pa pb ha ea v1 1000 (0 : Int32) dn df v2 v3 x16 x17 x18 x19 x20 hl10 ?_)
  refine G_aload_n F zd_ER_readAll_45 rfl (j := 0) rfl ?_
  refine G_aload_n F zd_ER_readAll_46 rfl (j := 0) rfl ?_
  refine G_get F fa_ER_39_ER (q := 7) zd_ER_readAll_47 rfl rfl ?_
  refine G_get F fa_ER_23_R (q := 2) zd_ER_readAll_50 rfl rfl ?_
  refine G_aload_n F zd_ER_readAll_53 rfl (j := 0) rfl ?_
  refine G_get F fa_ER_15_ER (q := 7) zd_ER_readAll_54 rfl rfl ?_
  obtain ⟨u21, hj65, h⟩ := bc1_s h
  have X65 : G D 2 k 0 0 65 [(0, .ref ea), (1, .int x16)] [.int u21, .ref ea] [(sa, .inr (4, [.ref sb, .int sn])), (sb, .inl (cB, sl, .inl sf)), (da, .inr (4, [.ref db, .int x17])), (db, .inl (cB, dl, .inl x18)), (pa, .inr (4, [.ref pb, .int pn])), (pb, .inl (cB, pl, .inl pf)), (ha, .inr (2, [.ref pa, .ref da])), (ea, .inr (0, [.ref sa, .ref da, .ref ha, .int x19, .int x20, .int v1]))] := by
    refine G_aload_n F zd_ER_readAll_65 rfl (j := 0) rfl ?_
    refine G_get F fa_ER_19_ER (q := 7) zd_ER_readAll_66 rfl rfl ?_
    refine G_get F fa_ER_23_R (q := 0) zd_ER_readAll_69 rfl rfl ?_
    obtain ⟨v22, hc72, h⟩ := bc1_s h
    refine G_callvU F (zk_D_refuseIf_E l D cB cI cJ sa sb da db pa pb ha ea sn sl sf x17 dl x18 pn pl pf x19 x20 v1 u21 sn v22 hc72) (rest := []) [0, 1, 2, 3, 4, 5, 6, 7] rfl rfl rfl (ws' := [(sa, .inr (4, [.ref sb, .int sn])), (sb, .inl (cB, sl, .inl sf)), (da, .inr (4, [.ref db, .int x17])), (db, .inl (cB, dl, .inl x18)), (pa, .inr (4, [.ref pb, .int pn])), (pb, .inl (cB, pl, .inl pf)), (ha, .inr (2, [.ref pa, .ref da])), (ea, .inr (0, [.ref sa, .ref da, .ref ha, .int x19, .int v22, .int v1]))]) rfl (q0 := 7) rfl (x := ⟨"PressSuite$ElementReader", "refuseIf", "(ZI)V"⟩) cv_ER_42_ER rfl rfl ⟨Nat.le_of_ble_eq_true rfl, Nat.le_of_ble_eq_true rfl⟩ hf0 rfl (Nat.le_of_ble_eq_true rfl) zd_ER_readAll_72 rfl ?_
    obtain ⟨q1, q2, q3, q4, q5⟩ := inj5 h
    subst q1
    subst q2
    subst q3
    subst q4
    subst q5
    exact E 75 _ zd_ER_readAll_75
  have h := hj65
  refine G_icmp_ge F zd_ER_readAll_57 (tgt := 64) rfl (fun h0 => ?_) (fun h0 => ?_)
  · have h := iP h h0
    refine G_iconst (v := (0 : Int32)) F zd_ER_readAll_64 (by decide) ?_
    have q1 := Option.some.inj h
    subst q1
    exact G_lv [0, 1] rfl X65
  · have h := iN h h0
    refine G_iconst (v := (1 : Int32)) F zd_ER_readAll_60 (by decide) ?_
    refine G_goto F zd_ER_readAll_61 (tgt := 65) rfl ?_
    have q1 := Option.some.inj h
    subst q1
    exact G_lv [0, 1] rfl X65

set_option maxHeartbeats 4000000 in
set_option maxRecDepth 100000 in
theorem zk_D_rewind_S (l : Launch) (D : va_G) (cB cI cJ : ClassId) (sa : Nat) (sb : Nat) (da : Nat) (db : Nat) (pa : Nat) (pb : Nat) (ha : Nat) (ea : Nat) (sn : Int32) (sl : Nat) (sf : Nat → Int32) (dn : Int32) (dl : Nat) (df : Nat → Int32) (pn : Int32) (pl : Nat) (pf : Nat → Int32) (ra : Int32) (rr : Int32) (dn' : Int32) (ra' : Int32) (rr' : Int32) (h : zf_D_rewind  = some (dn', ra', rr')) : CoV l zy_D_rewind zw_D_rewind { frames := 1, cells := 0, slots := 0, locals := 20 } D cB cI cJ [.ref ea] [(sa, .inr (4, [.ref sb, .int sn])), (sb, .inl (cB, sl, .inl sf)), (da, .inr (4, [.ref db, .int dn])), (db, .inl (cB, dl, .inl df)), (pa, .inr (4, [.ref pb, .int pn])), (pb, .inl (cB, pl, .inl pf)), (ha, .inr (2, [.ref pa, .ref da])), (ea, .inr (5, [.ref sa, .ref da, .ref ha, .int ra, .int rr]))] [(sa, .inr (4, [.ref sb, .int sn])), (sb, .inl (cB, sl, .inl sf)), (da, .inr (4, [.ref db, .int dn'])), (db, .inl (cB, dl, .inl df)), (pa, .inr (4, [.ref pb, .int pn])), (pb, .inl (cB, pl, .inl pf)), (ha, .inr (2, [.ref pa, .ref da])), (ea, .inr (5, [.ref sa, .ref da, .ref ha, .int ra', .int rr']))] := by
  unfold zf_D_rewind at h
  refine CoV.ofG (cc := zc_D_rewind) (maxL := 1) (own := RX4) (by decide) rfl rfl rfl trivial (Nat.le_of_ble_eq_true rfl) (L0 := [(0, .ref ea)]) rfl (fun k F E => ?_)
  refine G_aload_n F zd_D_rewind_0 rfl (j := 0) rfl ?_
  refine G_iconst (v := (0 : Int32)) F zd_D_rewind_1 (by decide) ?_
  refine G_put F fp_D_25_SR (q := 7) zd_D_rewind_2 rfl (Nat.le_of_ble_eq_true rfl) (ws' := [(sa, .inr (4, [.ref sb, .int sn])), (sb, .inl (cB, sl, .inl sf)), (da, .inr (4, [.ref db, .int dn])), (db, .inl (cB, dl, .inl df)), (pa, .inr (4, [.ref pb, .int pn])), (pb, .inl (cB, pl, .inl pf)), (ha, .inr (2, [.ref pa, .ref da])), (ea, .inr (5, [.ref sa, .ref da, .ref ha, .int (0 : Int32), .int rr]))]) rfl ?_
  refine G_aload_n F zd_D_rewind_5 rfl (j := 0) rfl ?_
  refine G_iconst (v := (-1 : Int32)) F zd_D_rewind_6 (by decide) ?_
  refine G_put F fp_D_29_SR (q := 7) zd_D_rewind_7 rfl (Nat.le_of_ble_eq_true rfl) (ws' := [(sa, .inr (4, [.ref sb, .int sn])), (sb, .inl (cB, sl, .inl sf)), (da, .inr (4, [.ref db, .int dn])), (db, .inl (cB, dl, .inl df)), (pa, .inr (4, [.ref pb, .int pn])), (pb, .inl (cB, pl, .inl pf)), (ha, .inr (2, [.ref pa, .ref da])), (ea, .inr (5, [.ref sa, .ref da, .ref ha, .int (0 : Int32), .int (-1 : Int32)]))]) rfl ?_
  refine G_aload_n F zd_D_rewind_10 rfl (j := 0) rfl ?_
  refine G_get F fa_D_13_SR (q := 7) zd_D_rewind_11 rfl rfl ?_
  obtain ⟨v1, hc14, h⟩ := bc1_s h
  refine G_callvV F (zk_R_clear l D cB cI cJ da db dn dl df v1 hc14) (rest := []) [2, 3] rfl rfl rfl (ws' := [(sa, .inr (4, [.ref sb, .int sn])), (sb, .inl (cB, sl, .inl sf)), (da, .inr (4, [.ref db, .int v1])), (db, .inl (cB, dl, .inl df)), (pa, .inr (4, [.ref pb, .int pn])), (pb, .inl (cB, pl, .inl pf)), (ha, .inr (2, [.ref pa, .ref da])), (ea, .inr (5, [.ref sa, .ref da, .ref ha, .int (0 : Int32), .int (-1 : Int32)]))]) rfl (q0 := 2) rfl cv_D_32_R rfl rfl ⟨Nat.le_of_ble_eq_true rfl, Nat.le_of_ble_eq_true rfl⟩ hf0 rfl (Nat.le_of_ble_eq_true rfl) zd_D_rewind_14 rfl ?_
  obtain ⟨q1, q2, q3⟩ := inj3 h
  subst q1
  subst q2
  subst q3
  exact E 17 _ zd_D_rewind_17

set_option maxHeartbeats 4000000 in
set_option maxRecDepth 100000 in
theorem zk_D_rewind_E (l : Launch) (D : va_G) (cB cI cJ : ClassId) (sa : Nat) (sb : Nat) (da : Nat) (db : Nat) (pa : Nat) (pb : Nat) (ha : Nat) (ea : Nat) (sn : Int32) (sl : Nat) (sf : Nat → Int32) (dn : Int32) (dl : Nat) (df : Nat → Int32) (pn : Int32) (pl : Nat) (pf : Nat → Int32) (ra : Int32) (rr : Int32) (rp : Int32) (dn' : Int32) (ra' : Int32) (rr' : Int32) (h : zf_D_rewind  = some (dn', ra', rr')) : CoV l zy_D_rewind zw_D_rewind { frames := 1, cells := 0, slots := 0, locals := 20 } D cB cI cJ [.ref ea] [(sa, .inr (4, [.ref sb, .int sn])), (sb, .inl (cB, sl, .inl sf)), (da, .inr (4, [.ref db, .int dn])), (db, .inl (cB, dl, .inl df)), (pa, .inr (4, [.ref pb, .int pn])), (pb, .inl (cB, pl, .inl pf)), (ha, .inr (2, [.ref pa, .ref da])), (ea, .inr (0, [.ref sa, .ref da, .ref ha, .int ra, .int rr, .int rp]))] [(sa, .inr (4, [.ref sb, .int sn])), (sb, .inl (cB, sl, .inl sf)), (da, .inr (4, [.ref db, .int dn'])), (db, .inl (cB, dl, .inl df)), (pa, .inr (4, [.ref pb, .int pn])), (pb, .inl (cB, pl, .inl pf)), (ha, .inr (2, [.ref pa, .ref da])), (ea, .inr (0, [.ref sa, .ref da, .ref ha, .int ra', .int rr', .int rp]))] := by
  unfold zf_D_rewind at h
  refine CoV.ofG (cc := zc_D_rewind) (maxL := 1) (own := RX4) (by decide) rfl rfl rfl trivial (Nat.le_of_ble_eq_true rfl) (L0 := [(0, .ref ea)]) rfl (fun k F E => ?_)
  refine G_aload_n F zd_D_rewind_0 rfl (j := 0) rfl ?_
  refine G_iconst (v := (0 : Int32)) F zd_D_rewind_1 (by decide) ?_
  refine G_put F fp_D_25_ER (q := 7) zd_D_rewind_2 rfl (Nat.le_of_ble_eq_true rfl) (ws' := [(sa, .inr (4, [.ref sb, .int sn])), (sb, .inl (cB, sl, .inl sf)), (da, .inr (4, [.ref db, .int dn])), (db, .inl (cB, dl, .inl df)), (pa, .inr (4, [.ref pb, .int pn])), (pb, .inl (cB, pl, .inl pf)), (ha, .inr (2, [.ref pa, .ref da])), (ea, .inr (0, [.ref sa, .ref da, .ref ha, .int (0 : Int32), .int rr, .int rp]))]) rfl ?_
  refine G_aload_n F zd_D_rewind_5 rfl (j := 0) rfl ?_
  refine G_iconst (v := (-1 : Int32)) F zd_D_rewind_6 (by decide) ?_
  refine G_put F fp_D_29_ER (q := 7) zd_D_rewind_7 rfl (Nat.le_of_ble_eq_true rfl) (ws' := [(sa, .inr (4, [.ref sb, .int sn])), (sb, .inl (cB, sl, .inl sf)), (da, .inr (4, [.ref db, .int dn])), (db, .inl (cB, dl, .inl df)), (pa, .inr (4, [.ref pb, .int pn])), (pb, .inl (cB, pl, .inl pf)), (ha, .inr (2, [.ref pa, .ref da])), (ea, .inr (0, [.ref sa, .ref da, .ref ha, .int (0 : Int32), .int (-1 : Int32), .int rp]))]) rfl ?_
  refine G_aload_n F zd_D_rewind_10 rfl (j := 0) rfl ?_
  refine G_get F fa_D_13_ER (q := 7) zd_D_rewind_11 rfl rfl ?_
  obtain ⟨v1, hc14, h⟩ := bc1_s h
  refine G_callvV F (zk_R_clear l D cB cI cJ da db dn dl df v1 hc14) (rest := []) [2, 3] rfl rfl rfl (ws' := [(sa, .inr (4, [.ref sb, .int sn])), (sb, .inl (cB, sl, .inl sf)), (da, .inr (4, [.ref db, .int v1])), (db, .inl (cB, dl, .inl df)), (pa, .inr (4, [.ref pb, .int pn])), (pb, .inl (cB, pl, .inl pf)), (ha, .inr (2, [.ref pa, .ref da])), (ea, .inr (0, [.ref sa, .ref da, .ref ha, .int (0 : Int32), .int (-1 : Int32), .int rp]))]) rfl (q0 := 2) rfl cv_D_32_R rfl rfl ⟨Nat.le_of_ble_eq_true rfl, Nat.le_of_ble_eq_true rfl⟩ hf0 rfl (Nat.le_of_ble_eq_true rfl) zd_D_rewind_14 rfl ?_
  obtain ⟨q1, q2, q3⟩ := inj3 h
  subst q1
  subst q2
  subst q3
  exact E 17 _ zd_D_rewind_17

