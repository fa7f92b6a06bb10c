set_option maxHeartbeats 4000000 in
set_option maxRecDepth 100000 in
theorem zk_M_next (l : Launch) (D : va_G) (cB cI cJ : ClassId) (ma : Nat) (mb : Nat) (mz : Nat) (mh : Nat) (me : Nat) (th : Int32) (mf : Nat → Int32) (sz : Nat → Int32) (mc : Int32) (cp : Int32) (hi : Nat → Int32) (bg : Int32) (en : Int32) (tb : Nat → Int32) (ou : Int32) (mp : Int32) (fa : Int32) (r : Int32) (mp' : Int32) (fa' : Int32) (h : zf_M_next mf sz mp fa = some (r, mp', fa')) : CoI l zy_M_next zw_M_next { frames := 1, cells := 0, slots := 0, locals := 22 } D cB cI cJ [.ref ma] [(ma, .inr (8, [.int th, .ref mb, .ref mz, .int mc, .int cp, .ref mh, .int bg, .int en, .ref me, .int ou, .int mp, .int fa])), (mb, .inl (cI, 600, .inl mf)), (mz, .inl (cI, 3, .inl sz)), (mh, .inl (cI, 224, .inl hi)), (me, .inl (cI, 32, .inl tb))] r [(ma, .inr (8, [.int th, .ref mb, .ref mz, .int mc, .int cp, .ref mh, .int bg, .int en, .ref me, .int ou, .int mp', .int fa'])), (mb, .inl (cI, 600, .inl mf)), (mz, .inl (cI, 3, .inl sz)), (mh, .inl (cI, 224, .inl hi)), (me, .inl (cI, 32, .inl tb))] := by
  unfold zf_M_next at h
  refine CoI.ofG (cc := zc_M_next) (maxL := 1) (own := RX10) (by decide) rfl rfl rfl trivial (Nat.le_of_ble_eq_true rfl) (L0 := [(0, .ref ma)]) rfl (fun k F E => ?_)
  refine G_aload_n F zd_M_next_0 rfl (j := 0) rfl ?_
  refine G_aload_n F zd_M_next_1 rfl (j := 0) rfl ?_
  refine G_get F fa_M_109_M (q := 0) zd_M_next_2 rfl rfl ?_
  refine G_aload_n F zd_M_next_5 rfl (j := 0) rfl ?_
  refine G_get F fa_M_13_M (q := 0) zd_M_next_6 rfl rfl ?_
  refine G_iconst (v := (1 : Int32)) F zd_M_next_9 (by decide) ?_
  obtain ⟨h0, h⟩ := gd_s h
  refine G_iaload F zd_M_next_10 (q := 2) rfl h0 ?_
  obtain ⟨u1, hj19, h⟩ := bc1_s h
  have X19 : G D 1 k 0 0 19 [(0, .ref ma)] [.int u1, .ref ma] [(ma, .inr (8, [.int th, .ref mb, .ref mz, .int mc, .int cp, .ref mh, .int bg, .int en, .ref me, .int ou, .int mp, .int fa])), (mb, .inl (cI, 600, .inl mf)), (mz, .inl (cI, 3, .inl sz)), (mh, .inl (cI, 224, .inl hi)), (me, .inl (cI, 32, .inl tb))] := by
    refine G_aload_n F zd_M_next_19 rfl (j := 0) rfl ?_
    refine G_get F fa_M_13_M (q := 0) zd_M_next_20 rfl rfl ?_
    refine G_iconst (v := (1 : Int32)) F zd_M_next_23 (by decide) ?_
    obtain ⟨h0, h⟩ := gd_s h
    refine G_iaload F zd_M_next_24 (q := 2) rfl h0 ?_
    obtain ⟨v2, hc25, h⟩ := bc1_s h
    refine G_callvV F (zk_M_need l D cB cI cJ ma mb mz mh me th mf sz mc cp hi bg en tb ou mp fa u1 (sz (Int32.toNatClampNeg (1 : Int32))) v2 hc25) (rest := []) [0, 1, 2, 3, 4] rfl rfl rfl (ws' := [(ma, .inr (8, [.int th, .ref mb, .ref mz, .int mc, .int cp, .ref mh, .int bg, .int en, .ref me, .int ou, .int mp, .int v2])), (mb, .inl (cI, 600, .inl mf)), (mz, .inl (cI, 3, .inl sz)), (mh, .inl (cI, 224, .inl hi)), (me, .inl (cI, 32, .inl tb))]) rfl (q0 := 0) rfl cv_M_112_M rfl rfl ⟨Nat.le_of_ble_eq_true rfl, Nat.le_of_ble_eq_true rfl⟩ hf0 rfl (Nat.le_of_ble_eq_true rfl) zd_M_next_25 rfl ?_
    refine G_aload_n F zd_M_next_28 rfl (j := 0) rfl ?_
    refine G_get F fa_M_106_M (q := 0) zd_M_next_29 rfl rfl ?_
    refine G_if_lt F zd_M_next_32 (tgt := 37) rfl (fun h0 => ?_) (fun h0 => ?_)
    · have h := iP h h0
      refine G_aload_n F zd_M_next_37 rfl (j := 0) rfl ?_
      refine G_dup F zd_M_next_38 rfl ?_
      refine G_get F fa_M_109_M (q := 0) zd_M_next_39 rfl rfl ?_
      refine G_iconst (v := (1 : Int32)) F zd_M_next_42 (by decide) ?_
      refine G_iadd F zd_M_next_43 ?_
      obtain ⟨v3, ev3, h⟩ := bnd_s h
      refine G_topi ev3 ?_
      refine G_put F fp_M_109_M (q := 0) zd_M_next_44 rfl (Nat.le_of_ble_eq_true rfl) (ws' := [(ma, .inr (8, [.int th, .ref mb, .ref mz, .int mc, .int cp, .ref mh, .int bg, .int en, .ref me, .int ou, .int v3, .int v2])), (mb, .inl (cI, 600, .inl mf)), (mz, .inl (cI, 3, .inl sz)), (mh, .inl (cI, 224, .inl hi)), (me, .inl (cI, 32, .inl tb))]) rfl ?_
      refine G_aload_n F zd_M_next_47 rfl (j := 0) rfl ?_
      refine G_get F fa_M_7_M (q := 0) zd_M_next_48 rfl rfl ?_
      refine G_sipush (v := (200 : Int32)) F zd_M_next_51 (by decide) ?_
      refine G_aload_n F zd_M_next_54 rfl (j := 0) rfl ?_
      refine G_get F fa_M_109_M (q := 0) zd_M_next_55 rfl rfl ?_
      refine G_iadd F zd_M_next_58 ?_
      refine G_iconst (v := (1 : Int32)) F zd_M_next_59 (by decide) ?_
      refine G_isub F zd_M_next_60 ?_
      obtain ⟨h0, h⟩ := gd_s h
      refine G_iaload F zd_M_next_61 (q := 1) rfl h0 ?_
      obtain ⟨q1, q2, q3⟩ := inj3 h
      subst q1
      subst q2
      subst q3
      exact E 62 _ zd_M_next_62
    · have h := iN h h0
      refine G_iconst (v := (0 : Int32)) F zd_M_next_35 (by decide) ?_
      obtain ⟨q1, q2, q3⟩ := inj3 h
      subst q1
      subst q2
      subst q3
      exact E 36 _ zd_M_next_36
  have h := hj19
  refine G_icmp_ge F zd_M_next_11 (tgt := 18) rfl (fun h0 => ?_) (fun h0 => ?_)
  · have h := iP h h0
    refine G_iconst (v := (0 : Int32)) F zd_M_next_18 (by decide) ?_
    have q1 := Option.some.inj h
    subst q1
    exact G_lv [0] rfl X19
  · have h := iN h h0
    refine G_iconst (v := (1 : Int32)) F zd_M_next_14 (by decide) ?_
    refine G_goto F zd_M_next_15 (tgt := 19) rfl ?_
    have q1 := Option.some.inj h
    subst q1
    exact G_lv [0] rfl X19

set_option maxHeartbeats 4000000 in
set_option maxRecDepth 100000 in
theorem zk_M_made (l : Launch) (D : va_G) (cB cI cJ : ClassId) (ma : Nat) (mb : Nat) (mz : Nat) (mh : Nat) (me : Nat) (th : Int32) (mf : Nat → Int32) (sz : Nat → Int32) (mc : Int32) (cp : Int32) (hi : Nat → Int32) (bg : Int32) (en : Int32) (tb : Nat → Int32) (ou : Int32) (mp : Int32) (fa : Int32) (r : Int32) (h : zf_M_made bg en = some r) : CoI l zy_M_made zw_M_made { frames := 0, cells := 0, slots := 0, locals := 0 } D cB cI cJ [.ref ma] [(ma, .inr (8, [.int th, .ref mb, .ref mz, .int mc, .int cp, .ref mh, .int bg, .int en, .ref me, .int ou, .int mp, .int fa])), (mb, .inl (cI, 600, .inl mf)), (mz, .inl (cI, 3, .inl sz)), (mh, .inl (cI, 224, .inl hi)), (me, .inl (cI, 32, .inl tb))] r [(ma, .inr (8, [.int th, .ref mb, .ref mz, .int mc, .int cp, .ref mh, .int bg, .int en, .ref me, .int ou, .int mp, .int fa])), (mb, .inl (cI, 600, .inl mf)), (mz, .inl (cI, 3, .inl sz)), (mh, .inl (cI, 224, .inl hi)), (me, .inl (cI, 32, .inl tb))] := by
  unfold zf_M_made at h
  refine CoI.ofG (cc := zc_M_made) (maxL := 1) (own := RX10) (by decide) rfl rfl rfl trivial (Nat.le_of_ble_eq_true rfl) (L0 := [(0, .ref ma)]) rfl (fun k F E => ?_)
  refine G_aload_n F zd_M_made_0 rfl (j := 0) rfl ?_
  refine G_get F fa_M_57_M (q := 0) zd_M_made_1 rfl rfl ?_
  refine G_aload_n F zd_M_made_4 rfl (j := 0) rfl ?_
  refine G_get F fa_M_54_M (q := 0) zd_M_made_5 rfl rfl ?_
  refine G_isub F zd_M_made_8 ?_
  have q1 := Option.some.inj h
  subst q1
  exact E 9 _ zd_M_made_9

set_option maxHeartbeats 4000000 in
set_option maxRecDepth 100000 in
theorem zl_M_literals_2 {k : GC} {l : Launch} {D : va_G} {cB cI cJ : ClassId} (F : GF k l { frames := 2, cells := 0, slots := 0, locals := 42 } zc_M_literals 4 RX10 D cB cI cJ) (th : Int32) (mf : Nat → Int32) (sz : Nat → Int32) (mc : Int32) (cp : Int32) (bg : Int32) (tb : Nat → Int32) (ou : Int32) (i1 : Int32) (ma : Nat) (mb : Nat) (mz : Nat) (mh : Nat) (me : Nat) : ∀ (n : Nat) (v1 : Int32) (v2 : Int32) (v3 : Int32) (v4 : Int32) (v5 : Nat → Int32) (w1 : Int32) (w2 : Int32) (w3 : Int32) (w4 : Int32) (w5 : Nat → Int32), zf_M_literals_L2 mf sz i1 n v1 v2 v3 v4 v5 = some (w1, w2, w3, w4, w5) → G D 4 k 0 0 52 [(0, .ref ma), (1, .int i1), (2, .int w1)] [] [(ma, .inr (8, [.int th, .ref mb, .ref mz, .int mc, .int cp, .ref mh, .int bg, .int w2, .ref me, .int ou, .int w3, .int w4])), (mb, .inl (cI, 600, .inl mf)), (mz, .inl (cI, 3, .inl sz)), (mh, .inl (cI, 224, .inl w5)), (me, .inl (cI, 32, .inl tb))] → G D 4 k 0 0 2 [(0, .ref ma), (1, .int i1), (2, .int v1)] [] [(ma, .inr (8, [.int th, .ref mb, .ref mz, .int mc, .int cp, .ref mh, .int bg, .int v2, .ref me, .int ou, .int v3, .int v4])), (mb, .inl (cI, 600, .inl mf)), (mz, .inl (cI, 3, .inl sz)), (mh, .inl (cI, 224, .inl v5)), (me, .inl (cI, 32, .inl tb))] := by
  intro n
  induction n with
  | zero =>
    intro v1 v2 v3 v4 v5 w1 w2 w3 w4 w5 h
    rw [zf_M_literals_L2_0] at h
    cases h
  | succ n ih =>
    intro v1 v2 v3 v4 v5 w1 w2 w3 w4 w5 h hx
    have h := (zf_M_literals_L2_s mf sz i1 n v1 v2 v3 v4 v5).symm.trans h
    refine G_iload_n F zd_M_literals_2 rfl (j := 2) rfl ?_
    refine G_iload_n F zd_M_literals_3 rfl (j := 1) rfl ?_
    refine G_icmp_ge F zd_M_literals_4 (tgt := 52) rfl (fun h0 => ?_) (fun h0 => ?_)
    · have h := iP h h0
      obtain ⟨q1, q2, q3, q4, q5⟩ := inj5 h
      subst q1
      subst q2
      subst q3
      subst q4
      subst q5
      exact G_lv [0, 1, 2] rfl hx
    · have h := iN h h0
      refine G_aload_n F zd_M_literals_7 rfl (j := 0) rfl ?_
      refine G_get F fa_M_106_M (q := 0) zd_M_literals_8 rfl rfl ?_
      refine G_if_ge F zd_M_literals_11 (tgt := 52) rfl (fun h0 => ?_) (fun h0 => ?_)
      · have h := iP h h0
        obtain ⟨q1, q2, q3, q4, q5⟩ := inj5 h
        subst q1
        subst q2
        subst q3
        subst q4
        subst q5
        exact G_lv [0, 1, 2] rfl hx
      · have h := iN h h0
        refine G_aload_n F zd_M_literals_14 rfl (j := 0) rfl ?_
        obtain ⟨v6, v7, v8, hc15, h⟩ := bc3_s h
        refine G_calliV F (zk_M_next l D cB cI cJ ma mb mz mh me th mf sz mc cp v5 bg v2 tb ou v3 v4 v6 v7 v8 hc15) (rest := []) [0, 1, 2, 3, 4] rfl rfl rfl (ws' := [(ma, .inr (8, [.int th, .ref mb, .ref mz, .int mc, .int cp, .ref mh, .int bg, .int v2, .ref me, .int ou, .int v7, .int v8])), (mb, .inl (cI, 600, .inl mf)), (mz, .inl (cI, 3, .inl sz)), (mh, .inl (cI, 224, .inl v5)), (me, .inl (cI, 32, .inl tb))]) rfl (q0 := 0) rfl cv_M_116_M rfl rfl ⟨Nat.le_of_ble_eq_true rfl, Nat.le_of_ble_eq_true rfl⟩ hf0 rfl (Nat.le_of_ble_eq_true rfl) zd_M_literals_15 rfl ?_
        refine G_istore_n F zd_M_literals_18 rfl (by decide) (L' := [(3, .int v6), (0, .ref ma), (1, .int i1), (2, .int v1)]) rfl ?_
        refine G_aload_n F zd_M_literals_19 rfl (j := 1) rfl ?_
        refine G_get F fa_M_106_M (q := 0) zd_M_literals_20 rfl rfl ?_
        obtain ⟨u9, u10, hj46, h⟩ := bc2_s h
        have X46 : G D 4 k 0 0 46 [(0, .ref ma), (1, .int i1), (2, .int v1), (3, .int v6)] [] [(ma, .inr (8, [.int th, .ref mb, .ref mz, .int mc, .int cp, .ref mh, .int bg, .int u9, .ref me, .int ou, .int v7, .int v8])), (mb, .inl (cI, 600, .inl mf)), (mz, .inl (cI, 3, .inl sz)), (mh, .inl (cI, 224, .inl u10)), (me, .inl (cI, 32, .inl tb))] := by
          obtain ⟨v13, ev13, h⟩ := bnd_s h
          refine G_iinc F zd_M_literals_46 (j := 2) rfl (w := (1 : Int32)) (by decide) ev13 (by decide) (L' := [(2, .int v13), (0, .ref ma), (1, .int i1), (3, .int v6)]) rfl ?_
          refine G_goto F zd_M_literals_49 (tgt := 2) rfl ?_
          exact G_lv [1, 2, 0] rfl (ih _ _ _ _ _ _ _ _ _ _ h hx)
        have h := hj46
        refine G_if_ge F zd_M_literals_23 (tgt := 46) rfl (fun h0 => ?_) (fun h0 => ?_)
        · have h := iP h h0
          obtain ⟨q1, q2⟩ := inj2 h
          subst q1
          subst q2
          exact G_lv [1, 2, 3, 0] rfl X46
        · have h := iN h h0
          refine G_aload_n F zd_M_literals_26 rfl (j := 1) rfl ?_
          refine G_get F fa_M_16_M (q := 0) zd_M_literals_27 rfl rfl ?_
          refine G_aload_n F zd_M_literals_30 rfl (j := 1) rfl ?_
          refine G_get F fa_M_57_M (q := 0) zd_M_literals_31 rfl rfl ?_
          refine G_iload_n F zd_M_literals_34 rfl (j := 0) rfl ?_
          obtain ⟨h0, h⟩ := gd_s h
          obtain ⟨v11, ev11, h⟩ := bnd_s h
          refine G_iastore F zd_M_literals_35 (q := 3) rfl h0 ev11 (ws' := [(ma, .inr (8, [.int th, .ref mb, .ref mz, .int mc, .int cp, .ref mh, .int bg, .int v2, .ref me, .int ou, .int v7, .int v8])), (mb, .inl (cI, 600, .inl mf)), (mz, .inl (cI, 3, .inl sz)), (mh, .inl (cI, 224, .inl v11)), (me, .inl (cI, 32, .inl tb))]) rfl ?_
          refine G_aload_n F zd_M_literals_36 rfl (j := 1) rfl ?_
          refine G_dup F zd_M_literals_37 rfl ?_
          refine G_get F fa_M_57_M (q := 0) zd_M_literals_38 rfl rfl ?_
          refine G_iconst (v := (1 : Int32)) F zd_M_literals_41 (by decide) ?_
          refine G_iadd F zd_M_literals_42 ?_
          obtain ⟨v12, ev12, h⟩ := bnd_s h
          refine G_topi ev12 ?_
          refine G_put F fp_M_57_M (q := 0) zd_M_literals_43 rfl (Nat.le_of_ble_eq_true rfl) (ws' := [(ma, .inr (8, [.int th, .ref mb, .ref mz, .int mc, .int cp, .ref mh, .int bg, .int v12, .ref me, .int ou, .int v7, .int v8])), (mb, .inl (cI, 600, .inl mf)), (mz, .inl (cI, 3, .inl sz)), (mh, .inl (cI, 224, .inl v11)), (me, .inl (cI, 32, .inl tb))]) rfl ?_
          obtain ⟨q1, q2⟩ := inj2 h
          subst q1
          subst q2
          exact G_lv [1, 2, 3, 0] rfl X46
set_option maxHeartbeats 4000000 in
set_option maxRecDepth 100000 in
theorem zk_M_literals (l : Launch) (D : va_G) (cB cI cJ : ClassId) (ma : Nat) (mb : Nat) (mz : Nat) (mh : Nat) (me : Nat) (th : Int32) (mf : Nat → Int32) (sz : Nat → Int32) (mc : Int32) (cp : Int32) (hi : Nat → Int32) (bg : Int32) (en : Int32) (tb : Nat → Int32) (ou : Int32) (mp : Int32) (fa : Int32) (i1 : Int32) (en' : Int32) (mp' : Int32) (fa' : Int32) (hi' : Nat → Int32) (h : zf_M_literals mf sz hi en mp fa i1 = some (en', mp', fa', hi')) : CoV l zy_M_literals zw_M_literals { frames := 2, cells := 0, slots := 0, locals := 42 } D cB cI cJ [.ref ma, .int i1] [(ma, .inr (8, [.int th, .ref mb, .ref mz, .int mc, .int cp, .ref mh, .int bg, .int en, .ref me, .int ou, .int mp, .int fa])), (mb, .inl (cI, 600, .inl mf)), (mz, .inl (cI, 3, .inl sz)), (mh, .inl (cI, 224, .inl hi)), (me, .inl (cI, 32, .inl tb))] [(ma, .inr (8, [.int th, .ref mb, .ref mz, .int mc, .int cp, .ref mh, .int bg, .int en', .ref me, .int ou, .int mp', .int fa'])), (mb, .inl (cI, 600, .inl mf)), (mz, .inl (cI, 3, .inl sz)), (mh, .inl (cI, 224, .inl hi')), (me, .inl (cI, 32, .inl tb))] := by
  unfold zf_M_literals at h
  refine CoV.ofG (cc := zc_M_literals) (maxL := 4) (own := RX10) (by decide) rfl rfl rfl trivial (Nat.le_of_ble_eq_true rfl) (L0 := [(0, .ref ma), (1, .int i1)]) rfl (fun k F E => ?_)
  refine G_iconst (v := (0 : Int32)) F zd_M_literals_0 (by decide) ?_
  refine G_istore_n F zd_M_literals_1 rfl (by decide) (L' := [(2, .int (0 : Int32)), (0, .ref ma), (1, .int i1)]) rfl ?_
  obtain ⟨x14, x15, x16, x17, x18, hl2, h⟩ := bc5_s h
  refine G_lv [1, 2, 0] rfl (zl_M_literals_2 F th mf sz mc cp bg tb ou i1 ma mb mz mh me 1000 (0 : Int32) en mp fa hi x14 x15 x16 x17 x18 hl2 ?_)
  obtain ⟨q1, q2, q3, q4⟩ := inj4 h
  subst q1
  subst q2
  subst q3
  subst q4
  exact E 52 _ zd_M_literals_52

set_option maxHeartbeats 4000000 in
set_option maxRecDepth 100000 in
theorem zl_M_copies_2 {k : GC} {l : Launch} {D : va_G} {cB cI cJ : ClassId} (F : GF k l { frames := 0, cells := 0, slots := 0, locals := 0 } zc_M_copies 4 RX10 D cB cI cJ) (th : Int32) (mf : Nat → Int32) (sz : Nat → Int32) (mc : Int32) (cp : Int32) (bg : Int32) (tb : Nat → Int32) (ou : Int32) (mp : Int32) (fa : Int32) (i1 : Int32) (i2 : Int32) (ma : Nat) (mb : Nat) (mz : Nat) (mh : Nat) (me : Nat) : ∀ (n : Nat) (v1 : Int32) (v2 : Int32) (v3 : Nat → Int32) (w1 : Int32) (w2 : Int32) (w3 : Nat → Int32), zf_M_copies_L2 fa i1 i2 n v1 v2 v3 = some (w1, w2, w3) → G D 4 k 0 0 50 [(0, .ref ma), (1, .int i1), (2, .int i2), (3, .int w1)] [] [(ma, .inr (8, [.int th, .ref mb, .ref mz, .int mc, .int cp, .ref mh, .int bg, .int w2, .ref me, .int ou, .int mp, .int fa])), (mb, .inl (cI, 600, .inl mf)), (mz, .inl (cI, 3, .inl sz)), (mh, .inl (cI, 224, .inl w3)), (me, .inl (cI, 32, .inl tb))] → G D 4 k 0 0 2 [(0, .ref ma), (1, .int i1), (2, .int i2), (3, .int v1)] [] [(ma, .inr (8, [.int th, .ref mb, .ref mz, .int mc, .int cp, .ref mh, .int bg, .int v2, .ref me, .int ou, .int mp, .int fa])), (mb, .inl (cI, 600, .inl mf)), (mz, .inl (cI, 3, .inl sz)), (mh, .inl (cI, 224, .inl v3)), (me, .inl (cI, 32, .inl tb))] := by
  intro n
  induction n with
  | zero =>
    intro v1 v2 v3 w1 w2 w3 h
    rw [zf_M_copies_L2_0] at h
    cases h
  | succ n ih =>
    intro v1 v2 v3 w1 w2 w3 h hx
    have h := (zf_M_copies_L2_s fa i1 i2 n v1 v2 v3).symm.trans h
    refine G_iload_n F zd_M_copies_2 rfl (j := 3) rfl ?_
    refine G_iload_n F zd_M_copies_3 rfl (j := 1) rfl ?_
    refine G_icmp_ge F zd_M_copies_4 (tgt := 50) rfl (fun h0 => ?_) (fun h0 => ?_)
    · have h := iP h h0
      obtain ⟨q1, q2, q3⟩ := inj3 h
      subst q1
      subst q2
      subst q3
      exact G_lv [0, 1, 2, 3] rfl hx
    · have h := iN h h0
      refine G_aload_n F zd_M_copies_7 rfl (j := 0) rfl ?_
      refine G_get F fa_M_106_M (q := 0) zd_M_copies_8 rfl rfl ?_
      refine G_if_ge F zd_M_copies_11 (tgt := 50) rfl (fun h0 => ?_) (fun h0 => ?_)
      · have h := iP h h0
        obtain ⟨q1, q2, q3⟩ := inj3 h
        subst q1
        subst q2
        subst q3
        exact G_lv [0, 1, 2, 3] rfl hx
      · have h := iN h h0
        refine G_aload_n F zd_M_copies_14 rfl (j := 0) rfl ?_
        refine G_get F fa_M_16_M (q := 0) zd_M_copies_15 rfl rfl ?_
        refine G_aload_n F zd_M_copies_18 rfl (j := 0) rfl ?_
        refine G_get F fa_M_57_M (q := 0) zd_M_copies_19 rfl rfl ?_
        refine G_aload_n F zd_M_copies_22 rfl (j := 0) rfl ?_
        refine G_get F fa_M_16_M (q := 0) zd_M_copies_23 rfl rfl ?_
        refine G_aload_n F zd_M_copies_26 rfl (j := 0) rfl ?_
        refine G_get F fa_M_57_M (q := 0) zd_M_copies_27 rfl rfl ?_
        refine G_iload_n F zd_M_copies_30 rfl (j := 2) rfl ?_
        refine G_isub F zd_M_copies_31 ?_
        obtain ⟨h0, h⟩ := gd_s h
        refine G_iaload F zd_M_copies_32 (q := 3) rfl h0 ?_
        obtain ⟨h0, h⟩ := gd_s h
        obtain ⟨v4, ev4, h⟩ := bnd_s h
        refine G_iastore F zd_M_copies_33 (q := 3) rfl h0 ev4 (ws' := [(ma, .inr (8, [.int th, .ref mb, .ref mz, .int mc, .int cp, .ref mh, .int bg, .int v2, .ref me, .int ou, .int mp, .int fa])), (mb, .inl (cI, 600, .inl mf)), (mz, .inl (cI, 3, .inl sz)), (mh, .inl (cI, 224, .inl v4)), (me, .inl (cI, 32, .inl tb))]) rfl ?_
        refine G_aload_n F zd_M_copies_34 rfl (j := 0) rfl ?_
        refine G_dup F zd_M_copies_35 rfl ?_
        refine G_get F fa_M_57_M (q := 0) zd_M_copies_36 rfl rfl ?_
        refine G_iconst (v := (1 : Int32)) F zd_M_copies_39 (by decide) ?_
        refine G_iadd F zd_M_copies_40 ?_
        obtain ⟨v5, ev5, h⟩ := bnd_s h
        refine G_topi ev5 ?_
        refine G_put F fp_M_57_M (q := 0) zd_M_copies_41 rfl (Nat.le_of_ble_eq_true rfl) (ws' := [(ma, .inr (8, [.int th, .ref mb, .ref mz, .int mc, .int cp, .ref mh, .int bg, .int v5, .ref me, .int ou, .int mp, .int fa])), (mb, .inl (cI, 600, .inl mf)), (mz, .inl (cI, 3, .inl sz)), (mh, .inl (cI, 224, .inl v4)), (me, .inl (cI, 32, .inl tb))]) rfl ?_
        obtain ⟨v6, ev6, h⟩ := bnd_s h
        refine G_iinc F zd_M_copies_44 (j := 3) rfl (w := (1 : Int32)) (by decide) ev6 (by decide) (L' := [(3, .int v6), (0, .ref ma), (1, .int i1), (2, .int i2)]) rfl ?_
        refine G_goto F zd_M_copies_47 (tgt := 2) rfl ?_
        exact G_lv [1, 2, 3, 0] rfl (ih _ _ _ _ _ _ h hx)
set_option maxHeartbeats 4000000 in
set_option maxRecDepth 100000 in
theorem zk_M_copies (l : Launch) (D : va_G) (cB cI cJ : ClassId) (ma : Nat) (mb : Nat) (mz : Nat) (mh : Nat) (me : Nat) (th : Int32) (mf : Nat → Int32) (sz : Nat → Int32) (mc : Int32) (cp : Int32) (hi : Nat → Int32) (bg : Int32) (en : Int32) (tb : Nat → Int32) (ou : Int32) (mp : Int32) (fa : Int32) (i1 : Int32) (i2 : Int32) (en' : Int32) (hi' : Nat → Int32) (h : zf_M_copies hi en fa i1 i2 = some (en', hi')) : CoV l zy_M_copies zw_M_copies { frames := 0, cells := 0, slots := 0, locals := 0 } D cB cI cJ [.ref ma, .int i1, .int i2] [(ma, .inr (8, [.int th, .ref mb, .ref mz, .int mc, .int cp, .ref mh, .int bg, .int en, .ref me, .int ou, .int mp, .int fa])), (mb, .inl (cI, 600, .inl mf)), (mz, .inl (cI, 3, .inl sz)), (mh, .inl (cI, 224, .inl hi)), (me, .inl (cI, 32, .inl tb))] [(ma, .inr (8, [.int th, .ref mb, .ref mz, .int mc, .int cp, .ref mh, .int bg, .int en', .ref me, .int ou, .int mp, .int fa])), (mb, .inl (cI, 600, .inl mf)), (mz, .inl (cI, 3, .inl sz)), (mh, .inl (cI, 224, .inl hi')), (me, .inl (cI, 32, .inl tb))] := by
  unfold zf_M_copies at h
  refine CoV.ofG (cc := zc_M_copies) (maxL := 4) (own := RX10) (by decide) rfl rfl rfl trivial (Nat.le_of_ble_eq_true rfl) (L0 := [(0, .ref ma), (1, .int i1), (2, .int i2)]) rfl (fun k F E => ?_)
  refine G_iconst (v := (0 : Int32)) F zd_M_copies_0 (by decide) ?_
  refine G_istore_n F zd_M_copies_1 rfl (by decide) (L' := [(3, .int (0 : Int32)), (0, .ref ma), (1, .int i1), (2, .int i2)]) rfl ?_
  obtain ⟨x7, x8, x9, hl2, h⟩ := bc3_s h
  refine G_lv [1, 2, 3, 0] rfl (zl_M_copies_2 F th mf sz mc cp bg tb ou mp fa i1 i2 ma mb mz mh me 1000 (0 : Int32) en hi x7 x8 x9 hl2 ?_)
  obtain ⟨q1, q2⟩ := inj2 h
  subst q1
  subst q2
  exact E 50 _ zd_M_copies_50

set_option maxHeartbeats 4000000 in
set_option maxRecDepth 100000 in
theorem zl_M_more_16 {k : GC} {l : Launch} {D : va_G} {cB cI cJ : ClassId} (F : GF k l { frames := 2, cells := 0, slots := 0, locals := 42 } zc_M_more 4 RX10 D cB cI cJ) (th : Int32) (mf : Nat → Int32) (sz : Nat → Int32) (mc : Int32) (cp : Int32) (hi : Nat → Int32) (bg : Int32) (en : Int32) (tb : Nat → Int32) (ou : Int32) (i1 : Int32) (ma : Nat) (mb : Nat) (mz : Nat) (mh : Nat) (me : Nat) : ∀ (n : Nat) (v2 : Int32) (v3 : Int32) (v4 : Int32) (v5 : Int32) (w2 : Int32) (w3 : Int32) (w4 : Int32) (w5 : Int32), zf_M_more_L16 mf sz n v2 v3 v4 v5 = some (w2, w3, w4, w5) → G D 4 k 0 0 42 [(0, .ref ma), (1, .int i1), (2, .int w2), (3, .int w3)] [] [(ma, .inr (8, [.int th, .ref mb, .ref mz, .int mc, .int cp, .ref mh, .int bg, .int en, .ref me, .int ou, .int w4, .int w5])), (mb, .inl (cI, 600, .inl mf)), (mz, .inl (cI, 3, .inl sz)), (mh, .inl (cI, 224, .inl hi)), (me, .inl (cI, 32, .inl tb))] → G D 4 k 0 0 16 [(0, .ref ma), (1, .int i1), (2, .int v2), (3, .int v3)] [] [(ma, .inr (8, [.int th, .ref mb, .ref mz, .int mc, .int cp, .ref mh, .int bg, .int en, .ref me, .int ou, .int v4, .int v5])), (mb, .inl (cI, 600, .inl mf)), (mz, .inl (cI, 3, .inl sz)), (mh, .inl (cI, 224, .inl hi)), (me, .inl (cI, 32, .inl tb))] := by
  intro n
  induction n with
  | zero =>
    intro v2 v3 v4 v5 w2 w3 w4 w5 h
    rw [zf_M_more_L16_0] at h
    cases h
  | succ n ih =>
    intro v2 v3 v4 v5 w2 w3 w4 w5 h hx
    have h := (zf_M_more_L16_s mf sz n v2 v3 v4 v5).symm.trans h
    refine G_iload_n F zd_M_more_16 rfl (j := 3) rfl ?_
    refine G_sipush (v := (255 : Int32)) F zd_M_more_17 (by decide) ?_
    refine G_icmp_ne F zd_M_more_20 (tgt := 42) rfl (fun h0 => ?_) (fun h0 => ?_)
    · have h := iN h h0
      obtain ⟨q1, q2, q3, q4⟩ := inj4 h
      subst q1
      subst q2
      subst q3
      subst q4
      exact G_lv [0, 1, 2, 3] rfl hx
    · have h := iP h h0
      refine G_aload_n F zd_M_more_23 rfl (j := 0) rfl ?_
      refine G_get F fa_M_106_M (q := 0) zd_M_more_24 rfl rfl ?_
      refine G_if_ge F zd_M_more_27 (tgt := 42) rfl (fun h0 => ?_) (fun h0 => ?_)
      · have h := iP h h0
        obtain ⟨q1, q2, q3, q4⟩ := inj4 h
        subst q1
        subst q2
        subst q3
        subst q4
        exact G_lv [0, 1, 2, 3] rfl hx
      · have h := iN h h0
        refine G_aload_n F zd_M_more_30 rfl (j := 0) rfl ?_
        obtain ⟨v6, v7, v8, hc31, h⟩ := bc3_s h
        refine G_calliV F (zk_M_next l D cB cI cJ ma mb mz mh me th mf sz mc cp hi bg en tb ou v4 v5 v6 v7 v8 hc31) (rest := []) [0, 1, 2, 3, 4] rfl rfl rfl (ws' := [(ma, .inr (8, [.int th, .ref mb, .ref mz, .int mc, .int cp, .ref mh, .int bg, .int en, .ref me, .int ou, .int v7, .int v8])), (mb, .inl (cI, 600, .inl mf)), (mz, .inl (cI, 3, .inl sz)), (mh, .inl (cI, 224, .inl hi)), (me, .inl (cI, 32, .inl tb))]) rfl (q0 := 0) rfl cv_M_116_M rfl rfl ⟨Nat.le_of_ble_eq_true rfl, Nat.le_of_ble_eq_true rfl⟩ hf0 rfl (Nat.le_of_ble_eq_true rfl) zd_M_more_31 rfl ?_
        refine G_istore_n F zd_M_more_34 rfl (by decide) (L' := [(3, .int v6), (0, .ref ma), (1, .int i1), (2, .int v2)]) rfl ?_
        refine G_iload_n F zd_M_more_35 rfl (j := 3) rfl ?_
        refine G_iload_n F zd_M_more_36 rfl (j := 0) rfl ?_
        refine G_iadd F zd_M_more_37 ?_
        obtain ⟨v9, ev9, h⟩ := bnd_s h
        refine G_topi ev9 ?_
        refine G_istore_n F zd_M_more_38 rfl (by decide) (L' := [(2, .int v9), (3, .int v6), (0, .ref ma), (1, .int i1)]) rfl ?_
        refine G_goto F zd_M_more_39 (tgt := 16) rfl ?_
        exact G_lv [2, 3, 0, 1] rfl (ih _ _ _ _ _ _ _ _ h hx)
set_option maxHeartbeats 4000000 in
set_option maxRecDepth 100000 in
theorem zk_M_more (l : Launch) (D : va_G) (cB cI cJ : ClassId) (ma : Nat) (mb : Nat) (mz : Nat) (mh : Nat) (me : Nat) (th : Int32) (mf : Nat → Int32) (sz : Nat → Int32) (mc : Int32) (cp : Int32) (hi : Nat → Int32) (bg : Int32) (en : Int32) (tb : Nat → Int32) (ou : Int32) (mp : Int32) (fa : Int32) (i1 : Int32) (r : Int32) (mp' : Int32) (fa' : Int32) (h : zf_M_more mf sz mp fa i1 = some (r, mp', fa')) : CoI l zy_M_more zw_M_more { frames := 2, cells := 0, slots := 0, locals := 42 } D cB cI cJ [.ref ma, .int i1] [(ma, .inr (8, [.int th, .ref mb, .ref mz, .int mc, .int cp, .ref mh, .int bg, .int en, .ref me, .int ou, .int mp, .int fa])), (mb, .inl (cI, 600, .inl mf)), (mz, .inl (cI, 3, .inl sz)), (mh, .inl (cI, 224, .inl hi)), (me, .inl (cI, 32, .inl tb))] r [(ma, .inr (8, [.int th, .ref mb, .ref mz, .int mc, .int cp, .ref mh, .int bg, .int en, .ref me, .int ou, .int mp', .int fa'])), (mb, .inl (cI, 600, .inl mf)), (mz, .inl (cI, 3, .inl sz)), (mh, .inl (cI, 224, .inl hi)), (me, .inl (cI, 32, .inl tb))] := by
  unfold zf_M_more at h
  refine CoI.ofG (cc := zc_M_more) (maxL := 4) (own := RX10) (by decide) rfl rfl rfl trivial (Nat.le_of_ble_eq_true rfl) (L0 := [(0, .ref ma), (1, .int i1)]) rfl (fun k F E => ?_)
  refine G_iload_n F zd_M_more_0 rfl (j := 1) rfl ?_
  refine G_istore_n F zd_M_more_1 rfl (by decide) (L' := [(2, .int i1), (0, .ref ma), (1, .int i1)]) rfl ?_
  refine G_iload_n F zd_M_more_2 rfl (j := 2) rfl ?_
  refine G_bipush (v := (15 : Int32)) F zd_M_more_3 (by decide) ?_
  obtain ⟨u1, hj15, h⟩ := bc1_s h
  have X15 : G D 4 k 0 0 15 [(0, .ref ma), (1, .int i1), (2, .int i1)] [.int u1] [(ma, .inr (8, [.int th, .ref mb, .ref mz, .int mc, .int cp, .ref mh, .int bg, .int en, .ref me, .int ou, .int mp, .int fa])), (mb, .inl (cI, 600, .inl mf)), (mz, .inl (cI, 3, .inl sz)), (mh, .inl (cI, 224, .inl hi)), (me, .inl (cI, 32, .inl tb))] := by
    refine G_istore_n F zd_M_more_15 rfl (by decide) (L' := [(3, .int u1), (0, .ref ma), (1, .int i1), (2, .int i1)]) rfl ?_
    obtain ⟨x10, x11, x12, x13, hl16, h⟩ := bc4_s h
    refine G_lv [1, 2, 3, 0] rfl (zl_M_more_16 F th mf sz mc cp hi bg en tb ou i1 ma mb mz mh me 1000 i1 u1 mp fa x10 x11 x12 x13 hl16 ?_)
    refine G_iload_n F zd_M_more_42 rfl (j := 2) rfl ?_
    obtain ⟨q1, q2, q3⟩ := inj3 h
    subst q1
    subst q2
    subst q3
    exact E 43 _ zd_M_more_43
  have h := hj15
  refine G_icmp_ne F zd_M_more_5 (tgt := 14) rfl (fun h0 => ?_) (fun h0 => ?_)
  · have h := iN h h0
    refine G_iconst (v := (0 : Int32)) F zd_M_more_14 (by decide) ?_
    have q1 := Option.some.inj h
    subst q1
    exact G_lv [1, 2, 0] rfl X15
  · have h := iP h h0
    refine G_sipush (v := (255 : Int32)) F zd_M_more_8 (by decide) ?_
    refine G_goto F zd_M_more_11 (tgt := 15) rfl ?_
    have q1 := Option.some.inj h
    subst q1
    exact G_lv [1, 2, 0] rfl X15

set_option maxHeartbeats 4000000 in
set_option maxRecDepth 100000 in
theorem zl_M_readZero_2 {k : GC} {l : Launch} {D : va_G} {cB cI cJ : ClassId} (F : GF k l { frames := 3, cells := 0, slots := 0, locals := 65 } zc_M_readZero 9 RX10 D cB cI cJ) (th : Int32) (mf : Nat → Int32) (sz : Nat → Int32) (mc : Int32) (cp : Int32) (bg : Int32) (tb : Nat → Int32) (ou : Int32) (ma : Nat) (mb : Nat) (mz : Nat) (mh : Nat) (me : Nat) : ∀ (n : Nat) (v1 : Int32) (v2 : Int32) (v3 : Int32) (v4 : Int32) (v5 : Nat → Int32) (w1 : Int32) (w2 : Int32) (w3 : Int32) (w4 : Int32) (w5 : Nat → Int32), zf_M_readZero_L2 mf sz bg n v1 v2 v3 v4 v5 = some (w1, w2, w3, w4, w5) → G D 9 k 0 0 186 [(0, .ref ma), (1, .int w1)] [] [(ma, .inr (8, [.int th, .ref mb, .ref mz, .int mc, .int cp, .ref mh, .int bg, .int w2, .ref me, .int ou, .int w3, .int w4])), (mb, .inl (cI, 600, .inl mf)), (mz, .inl (cI, 3, .inl sz)), (mh, .inl (cI, 224, .inl w5)), (me, .inl (cI, 32, .inl tb))] → G D 9 k 0 0 2 [(0, .ref ma), (1, .int v1)] [] [(ma, .inr (8, [.int th, .ref mb, .ref mz, .int mc, .int cp, .ref mh, .int bg, .int v2, .ref me, .int ou, .int v3, .int v4])), (mb, .inl (cI, 600, .inl mf)), (mz, .inl (cI, 3, .inl sz)), (mh, .inl (cI, 224, .inl v5)), (me, .inl (cI, 32, .inl tb))] := by
  intro n
  induction n with
  | zero =>
    intro v1 v2 v3 v4 v5 w1 w2 w3 w4 w5 h
    rw [zf_M_readZero_L2_0] at h
    cases h
  | succ n ih =>
    intro v1 v2 v3 v4 v5 w1 w2 w3 w4 w5 h hx
    have h := (zf_M_readZero_L2_s mf sz bg n v1 v2 v3 v4 v5).symm.trans h
    refine G_iload_n F zd_M_readZero_2 rfl (j := 1) rfl ?_
    refine G_if_eq F zd_M_readZero_3 (tgt := 186) rfl (fun h0 => ?_) (fun h0 => ?_)
    · have h := iP h h0
      obtain ⟨q1, q2, q3, q4, q5⟩ := inj5 h
      subst q1
      subst q2
      subst q3
      subst q4
      subst q5
      exact G_lv [0, 1] rfl hx
    · have h := iN h h0
      refine G_aload_n F zd_M_readZero_6 rfl (j := 0) rfl ?_
      refine G_get F fa_M_106_M (q := 0) zd_M_readZero_7 rfl rfl ?_
      refine G_if_ge F zd_M_readZero_10 (tgt := 186) rfl (fun h0 => ?_) (fun h0 => ?_)
      · have h := iP h h0
        obtain ⟨q1, q2, q3, q4, q5⟩ := inj5 h
        subst q1
        subst q2
        subst q3
        subst q4
        subst q5
        exact G_lv [0, 1] rfl hx
      · have h := iN h h0
        refine G_aload_n F zd_M_readZero_13 rfl (j := 0) rfl ?_
        refine G_get F fa_M_109_M (q := 0) zd_M_readZero_14 rfl rfl ?_
        refine G_istore_n F zd_M_readZero_17 rfl (by decide) (L' := [(2, .int v3), (0, .ref ma), (1, .int v1)]) rfl ?_
        refine G_aload_n F zd_M_readZero_18 rfl (j := 1) rfl ?_
        obtain ⟨v6, v7, v8, hc19, h⟩ := bc3_s h
        refine G_calliV F (zk_M_next l D cB cI cJ ma mb mz mh me th mf sz mc cp v5 bg v2 tb ou v3 v4 v6 v7 v8 hc19) (rest := []) [0, 1, 2, 3, 4] rfl rfl rfl (ws' := [(ma, .inr (8, [.int th, .ref mb, .ref mz, .int mc, .int cp, .ref mh, .int bg, .int v2, .ref me, .int ou, .int v7, .int v8])), (mb, .inl (cI, 600, .inl mf)), (mz, .inl (cI, 3, .inl sz)), (mh, .inl (cI, 224, .inl v5)), (me, .inl (cI, 32, .inl tb))]) rfl (q0 := 0) rfl cv_M_116_M rfl rfl ⟨Nat.le_of_ble_eq_true rfl, Nat.le_of_ble_eq_true rfl⟩ hf0 rfl (Nat.le_of_ble_eq_true rfl) zd_M_readZero_19 rfl ?_
        refine G_istore_n F zd_M_readZero_22 rfl (by decide) (L' := [(3, .int v6), (2, .int v3), (0, .ref ma), (1, .int v1)]) rfl ?_
        refine G_aload_n F zd_M_readZero_23 rfl (j := 2) rfl ?_
        refine G_iload_n F zd_M_readZero_24 rfl (j := 0) rfl ?_
        refine G_iconst (v := (4 : Int32)) F zd_M_readZero_25 (by decide) ?_
        refine G_ishr F zd_M_readZero_26 ?_
        obtain ⟨v9, v10, v11, hc27, h⟩ := bc3_s h
        refine G_calliV F (zk_M_more l D cB cI cJ ma mb mz mh me th mf sz mc cp v5 bg v2 tb ou v7 v8 (v6 >>> ((4 : Int32) &&& 31)) v9 v10 v11 hc27) (rest := []) [0, 1, 2, 3, 4] rfl rfl rfl (ws' := [(ma, .inr (8, [.int th, .ref mb, .ref mz, .int mc, .int cp, .ref mh, .int bg, .int v2, .ref me, .int ou, .int v10, .int v11])), (mb, .inl (cI, 600, .inl mf)), (mz, .inl (cI, 3, .inl sz)), (mh, .inl (cI, 224, .inl v5)), (me, .inl (cI, 32, .inl tb))]) rfl (q0 := 0) rfl cv_M_120_M rfl rfl ⟨Nat.le_of_ble_eq_true rfl, Nat.le_of_ble_eq_true rfl⟩ hf0 rfl (Nat.le_of_ble_eq_true rfl) zd_M_readZero_27 rfl ?_
        refine G_istore F zd_M_readZero_30 (by decide) (L' := [(4, .int v9), (3, .int v6), (2, .int v3), (0, .ref ma), (1, .int v1)]) rfl ?_
        refine G_aload_n F zd_M_readZero_32 rfl (j := 3) rfl ?_
        refine G_aload_n F zd_M_readZero_33 rfl (j := 3) rfl ?_
        obtain ⟨v12, hc34, h⟩ := bc1_s h
        refine G_calliV0 F (zk_M_made l D cB cI cJ ma mb mz mh me th mf sz mc cp v5 bg v2 tb ou v10 v11 v12 hc34) (rest := [.ref ma]) [0, 1, 2, 3, 4] rfl rfl (q0 := 0) rfl cv_M_123_M rfl rfl ⟨Nat.le_of_ble_eq_true rfl, Nat.le_of_ble_eq_true rfl⟩ hf0 rfl (Nat.le_of_ble_eq_true rfl) zd_M_readZero_34 rfl ?_
        refine G_iload F zd_M_readZero_37 (j := 0) rfl ?_
        refine G_iadd F zd_M_readZero_39 ?_
        refine G_sipush (v := (160 : Int32)) F zd_M_readZero_40 (by decide) ?_
        obtain ⟨u13, hj51, h⟩ := bc1_s h
        have X51 : G D 9 k 0 0 51 [(0, .ref ma), (1, .int v1), (2, .int v3), (3, .int v6), (4, .int v9)] [.int u13, .ref ma] [(ma, .inr (8, [.int th, .ref mb, .ref mz, .int mc, .int cp, .ref mh, .int bg, .int v2, .ref me, .int ou, .int v10, .int v11])), (mb, .inl (cI, 600, .inl mf)), (mz, .inl (cI, 3, .inl sz)), (mh, .inl (cI, 224, .inl v5)), (me, .inl (cI, 32, .inl tb))] := by
          refine G_iload_n F zd_M_readZero_51 rfl (j := 2) rfl ?_
          obtain ⟨v14, hc52, h⟩ := bc1_s h
          refine G_callvV F (zk_M_need l D cB cI cJ ma mb mz mh me th mf sz mc cp v5 bg v2 tb ou v10 v11 u13 v3 v14 hc52) (rest := []) [0, 1, 2, 3, 4] rfl rfl rfl (ws' := [(ma, .inr (8, [.int th, .ref mb, .ref mz, .int mc, .int cp, .ref mh, .int bg, .int v2, .ref me, .int ou, .int v10, .int v14])), (mb, .inl (cI, 600, .inl mf)), (mz, .inl (cI, 3, .inl sz)), (mh, .inl (cI, 224, .inl v5)), (me, .inl (cI, 32, .inl tb))]) rfl (q0 := 0) rfl cv_M_112_M rfl rfl ⟨Nat.le_of_ble_eq_true rfl, Nat.le_of_ble_eq_true rfl⟩ hf0 rfl (Nat.le_of_ble_eq_true rfl) zd_M_readZero_52 rfl ?_
          refine G_aload_n F zd_M_readZero_55 rfl (j := 0) rfl ?_
          refine G_iload F zd_M_readZero_56 (j := 4) rfl ?_
          obtain ⟨v15, v16, v17, v18, hc58, h⟩ := bc4_s h
          refine G_callvV F (zk_M_literals l D cB cI cJ ma mb mz mh me th mf sz mc cp v5 bg v2 tb ou v10 v14 v9 v15 v16 v17 v18 hc58) (rest := []) [0, 1, 2, 3, 4] rfl rfl rfl (ws' := [(ma, .inr (8, [.int th, .ref mb, .ref mz, .int mc, .int cp, .ref mh, .int bg, .int v15, .ref me, .int ou, .int v16, .int v17])), (mb, .inl (cI, 600, .inl mf)), (mz, .inl (cI, 3, .inl sz)), (mh, .inl (cI, 224, .inl v18)), (me, .inl (cI, 32, .inl tb))]) rfl (q0 := 0) rfl cv_M_126_M rfl rfl ⟨Nat.le_of_ble_eq_true rfl, Nat.le_of_ble_eq_true rfl⟩ hf0 rfl (Nat.le_of_ble_eq_true rfl) zd_M_readZero_58 rfl ?_
          refine G_aload_n F zd_M_readZero_61 rfl (j := 0) rfl ?_
          refine G_get F fa_M_109_M (q := 0) zd_M_readZero_62 rfl rfl ?_
          refine G_aload_n F zd_M_readZero_65 rfl (j := 0) rfl ?_
          refine G_get F fa_M_13_M (q := 0) zd_M_readZero_66 rfl rfl ?_
          refine G_iconst (v := (1 : Int32)) F zd_M_readZero_69 (by decide) ?_
          obtain ⟨h0, h⟩ := gd_s h
          refine G_iaload F zd_M_readZero_70 (q := 2) rfl h0 ?_
          obtain ⟨u19, hj79, h⟩ := bc1_s h
          have X79 : G D 9 k 0 0 79 [(0, .ref ma), (1, .int v1), (2, .int v3), (3, .int v6), (4, .int v9)] [.int u19] [(ma, .inr (8, [.int th, .ref mb, .ref mz, .int mc, .int cp, .ref mh, .int bg, .int v15, .ref me, .int ou, .int v16, .int v17])), (mb, .inl (cI, 600, .inl mf)), (mz, .inl (cI, 3, .inl sz)), (mh, .inl (cI, 224, .inl v18)), (me, .inl (cI, 32, .inl tb))] := by
            refine G_istore_n F zd_M_readZero_79 rfl (by decide) (L' := [(1, .int u19), (0, .ref ma), (2, .int v3), (3, .int v6), (4, .int v9)]) rfl ?_
            refine G_iload_n F zd_M_readZero_80 rfl (j := 0) rfl ?_
            obtain ⟨u20, u21, u22, u23, hj183, h⟩ := bc4_s h
            have X183 : G D 9 k 0 0 183 [(0, .ref ma), (1, .int u19), (2, .int v3), (3, .int v6), (4, .int v9)] [] [(ma, .inr (8, [.int th, .ref mb, .ref mz, .int mc, .int cp, .ref mh, .int bg, .int u20, .ref me, .int ou, .int u21, .int u22])), (mb, .inl (cI, 600, .inl mf)), (mz, .inl (cI, 3, .inl sz)), (mh, .inl (cI, 224, .inl u23)), (me, .inl (cI, 32, .inl tb))] := by
              refine G_goto F zd_M_readZero_183 (tgt := 2) rfl ?_
              exact G_lv [0, 1] rfl (ih _ _ _ _ _ _ _ _ _ _ h hx)
            have h := hj183
            refine G_if_eq F zd_M_readZero_81 (tgt := 183) rfl (fun h0 => ?_) (fun h0 => ?_)
            · have h := iP h h0
              obtain ⟨q1, q2, q3, q4⟩ := inj4 h
              subst q1
              subst q2
              subst q3
              subst q4
              exact G_lv [1, 0, 2, 3, 4] rfl X183
            · have h := iN h h0
              refine G_aload_n F zd_M_readZero_84 rfl (j := 1) rfl ?_
              refine G_get F fa_M_106_M (q := 0) zd_M_readZero_85 rfl rfl ?_
              refine G_if_ge F zd_M_readZero_88 (tgt := 183) rfl (fun h0 => ?_) (fun h0 => ?_)
              · have h := iP h h0
                obtain ⟨q1, q2, q3, q4⟩ := inj4 h
                subst q1
                subst q2
                subst q3
                subst q4
                exact G_lv [1, 0, 2, 3, 4] rfl X183
              · have h := iN h h0
                refine G_aload_n F zd_M_readZero_91 rfl (j := 1) rfl ?_
                refine G_get F fa_M_109_M (q := 0) zd_M_readZero_92 rfl rfl ?_
                refine G_istore F zd_M_readZero_95 (by decide) (L' := [(5, .int v16), (1, .int u19), (0, .ref ma), (2, .int v3), (3, .int v6), (4, .int v9)]) rfl ?_
                refine G_aload_n F zd_M_readZero_97 rfl (j := 2) rfl ?_
                obtain ⟨v24, v25, v26, hc98, h⟩ := bc3_s h
                refine G_calliV F (zk_M_next l D cB cI cJ ma mb mz mh me th mf sz mc cp v18 bg v15 tb ou v16 v17 v24 v25 v26 hc98) (rest := []) [0, 1, 2, 3, 4] rfl rfl rfl (ws' := [(ma, .inr (8, [.int th, .ref mb, .ref mz, .int mc, .int cp, .ref mh, .int bg, .int v15, .ref me, .int ou, .int v25, .int v26])), (mb, .inl (cI, 600, .inl mf)), (mz, .inl (cI, 3, .inl sz)), (mh, .inl (cI, 224, .inl v18)), (me, .inl (cI, 32, .inl tb))]) rfl (q0 := 0) rfl cv_M_116_M rfl rfl ⟨Nat.le_of_ble_eq_true rfl, Nat.le_of_ble_eq_true rfl⟩ hf0 rfl (Nat.le_of_ble_eq_true rfl) zd_M_readZero_98 rfl ?_
                refine G_istore F zd_M_readZero_101 (by decide) (L' := [(6, .int v24), (5, .int v16), (1, .int u19), (0, .ref ma), (2, .int v3), (3, .int v6), (4, .int v9)]) rfl ?_
                refine G_iload F zd_M_readZero_103 (j := 0) rfl ?_
                refine G_aload_n F zd_M_readZero_105 rfl (j := 3) rfl ?_
                obtain ⟨v27, v28, v29, hc106, h⟩ := bc3_s h
                refine G_calliV F (zk_M_next l D cB cI cJ ma mb mz mh me th mf sz mc cp v18 bg v15 tb ou v25 v26 v27 v28 v29 hc106) (rest := [.int v24]) [0, 1, 2, 3, 4] rfl rfl rfl (ws' := [(ma, .inr (8, [.int th, .ref mb, .ref mz, .int mc, .int cp, .ref mh, .int bg, .int v15, .ref me, .int ou, .int v28, .int v29])), (mb, .inl (cI, 600, .inl mf)), (mz, .inl (cI, 3, .inl sz)), (mh, .inl (cI, 224, .inl v18)), (me, .inl (cI, 32, .inl tb))]) rfl (q0 := 0) rfl cv_M_116_M rfl rfl ⟨Nat.le_of_ble_eq_true rfl, Nat.le_of_ble_eq_true rfl⟩ hf0 rfl (Nat.le_of_ble_eq_true rfl) zd_M_readZero_106 rfl ?_
                refine G_bipush (v := (8 : Int32)) F zd_M_readZero_109 (by decide) ?_
                refine G_ishl F zd_M_readZero_111 ?_
                refine G_ior F zd_M_readZero_112 ?_
                obtain ⟨v30, ev30, h⟩ := bnd_s h
                refine G_topi ev30 ?_
                refine G_istore F zd_M_readZero_113 (by decide) (L' := [(7, .int v30), (6, .int v24), (5, .int v16), (1, .int u19), (0, .ref ma), (2, .int v3), (3, .int v6), (4, .int v9)]) rfl ?_
                refine G_aload_n F zd_M_readZero_115 rfl (j := 4) rfl ?_
                refine G_iload F zd_M_readZero_116 (j := 0) rfl ?_
                obtain ⟨u31, hj135, h⟩ := bc1_s h
                have X135 : G D 9 k 0 0 135 [(0, .ref ma), (1, .int u19), (2, .int v3), (3, .int v6), (4, .int v9), (5, .int v16), (6, .int v24), (7, .int v30)] [.int u31, .ref ma] [(ma, .inr (8, [.int th, .ref mb, .ref mz, .int mc, .int cp, .ref mh, .int bg, .int v15, .ref me, .int ou, .int v28, .int v29])), (mb, .inl (cI, 600, .inl mf)), (mz, .inl (cI, 3, .inl sz)), (mh, .inl (cI, 224, .inl v18)), (me, .inl (cI, 32, .inl tb))] := by
                  refine G_iload F zd_M_readZero_135 (j := 5) rfl ?_
                  obtain ⟨v32, hc137, h⟩ := bc1_s h
                  refine G_callvV F (zk_M_need l D cB cI cJ ma mb mz mh me th mf sz mc cp v18 bg v15 tb ou v28 v29 u31 v16 v32 hc137) (rest := []) [0, 1, 2, 3, 4] rfl rfl rfl (ws' := [(ma, .inr (8, [.int th, .ref mb, .ref mz, .int mc, .int cp, .ref mh, .int bg, .int v15, .ref me, .int ou, .int v28, .int v32])), (mb, .inl (cI, 600, .inl mf)), (mz, .inl (cI, 3, .inl sz)), (mh, .inl (cI, 224, .inl v18)), (me, .inl (cI, 32, .inl tb))]) rfl (q0 := 0) rfl cv_M_112_M rfl rfl ⟨Nat.le_of_ble_eq_true rfl, Nat.le_of_ble_eq_true rfl⟩ hf0 rfl (Nat.le_of_ble_eq_true rfl) zd_M_readZero_137 rfl ?_
                  refine G_aload_n F zd_M_readZero_140 rfl (j := 0) rfl ?_
                  refine G_iload_n F zd_M_readZero_141 rfl (j := 3) rfl ?_
                  refine G_bipush (v := (15 : Int32)) F zd_M_readZero_142 (by decide) ?_
                  refine G_iand F zd_M_readZero_144 ?_
                  obtain ⟨v33, v34, v35, hc145, h⟩ := bc3_s h
                  refine G_calliV F (zk_M_more l D cB cI cJ ma mb mz mh me th mf sz mc cp v18 bg v15 tb ou v28 v32 (v6 &&& (15 : Int32)) v33 v34 v35 hc145) (rest := []) [0, 1, 2, 3, 4] rfl rfl rfl (ws' := [(ma, .inr (8, [.int th, .ref mb, .ref mz, .int mc, .int cp, .ref mh, .int bg, .int v15, .ref me, .int ou, .int v34, .int v35])), (mb, .inl (cI, 600, .inl mf)), (mz, .inl (cI, 3, .inl sz)), (mh, .inl (cI, 224, .inl v18)), (me, .inl (cI, 32, .inl tb))]) rfl (q0 := 0) rfl cv_M_120_M rfl rfl ⟨Nat.le_of_ble_eq_true rfl, Nat.le_of_ble_eq_true rfl⟩ hf0 rfl (Nat.le_of_ble_eq_true rfl) zd_M_readZero_145 rfl ?_
                  refine G_iconst (v := (4 : Int32)) F zd_M_readZero_148 (by decide) ?_
                  refine G_iadd F zd_M_readZero_149 ?_
                  obtain ⟨v36, ev36, h⟩ := bnd_s h
                  refine G_topi ev36 ?_
                  refine G_istore F zd_M_readZero_150 (by decide) (L' := [(8, .int v36), (0, .ref ma), (1, .int u19), (2, .int v3), (3, .int v6), (4, .int v9), (5, .int v16), (6, .int v24), (7, .int v30)]) rfl ?_
                  refine G_aload_n F zd_M_readZero_152 rfl (j := 1) rfl ?_
                  refine G_aload_n F zd_M_readZero_153 rfl (j := 1) rfl ?_
                  obtain ⟨v37, hc154, h⟩ := bc1_s h
                  refine G_calliV0 F (zk_M_made l D cB cI cJ ma mb mz mh me th mf sz mc cp v18 bg v15 tb ou v34 v35 v37 hc154) (rest := [.ref ma]) [0, 1, 2, 3, 4] rfl rfl (q0 := 0) rfl cv_M_123_M rfl rfl ⟨Nat.le_of_ble_eq_true rfl, Nat.le_of_ble_eq_true rfl⟩ hf0 rfl (Nat.le_of_ble_eq_true rfl) zd_M_readZero_154 rfl ?_
                  refine G_iload F zd_M_readZero_157 (j := 0) rfl ?_
                  refine G_iadd F zd_M_readZero_159 ?_
                  refine G_sipush (v := (160 : Int32)) F zd_M_readZero_160 (by decide) ?_
                  obtain ⟨u38, hj171, h⟩ := bc1_s h
                  have X171 : G D 9 k 0 0 171 [(0, .ref ma), (1, .int u19), (2, .int v3), (3, .int v6), (4, .int v9), (5, .int v16), (6, .int v24), (7, .int v30), (8, .int v36)] [.int u38, .ref ma] [(ma, .inr (8, [.int th, .ref mb, .ref mz, .int mc, .int cp, .ref mh, .int bg, .int v15, .ref me, .int ou, .int v34, .int v35])), (mb, .inl (cI, 600, .inl mf)), (mz, .inl (cI, 3, .inl sz)), (mh, .inl (cI, 224, .inl v18)), (me, .inl (cI, 32, .inl tb))] := by
                    refine G_iload_n F zd_M_readZero_171 rfl (j := 2) rfl ?_
                    obtain ⟨v39, hc172, h⟩ := bc1_s h
                    refine G_callvV F (zk_M_need l D cB cI cJ ma mb mz mh me th mf sz mc cp v18 bg v15 tb ou v34 v35 u38 v3 v39 hc172) (rest := []) [0, 1, 2, 3, 4] rfl rfl rfl (ws' := [(ma, .inr (8, [.int th, .ref mb, .ref mz, .int mc, .int cp, .ref mh, .int bg, .int v15, .ref me, .int ou, .int v34, .int v39])), (mb, .inl (cI, 600, .inl mf)), (mz, .inl (cI, 3, .inl sz)), (mh, .inl (cI, 224, .inl v18)), (me, .inl (cI, 32, .inl tb))]) rfl (q0 := 0) rfl cv_M_112_M rfl rfl ⟨Nat.le_of_ble_eq_true rfl, Nat.le_of_ble_eq_true rfl⟩ hf0 rfl (Nat.le_of_ble_eq_true rfl) zd_M_readZero_172 rfl ?_
                    refine G_aload_n F zd_M_readZero_175 rfl (j := 0) rfl ?_
                    refine G_iload F zd_M_readZero_176 (j := 8) rfl ?_
                    refine G_iload F zd_M_readZero_178 (j := 7) rfl ?_
                    obtain ⟨v40, v41, hc180, h⟩ := bc2_s h
                    refine G_callvV F (zk_M_copies l D cB cI cJ ma mb mz mh me th mf sz mc cp v18 bg v15 tb ou v34 v39 v36 v30 v40 v41 hc180) (rest := []) [0, 1, 2, 3, 4] rfl rfl rfl (ws' := [(ma, .inr (8, [.int th, .ref mb, .ref mz, .int mc, .int cp, .ref mh, .int bg, .int v40, .ref me, .int ou, .int v34, .int v39])), (mb, .inl (cI, 600, .inl mf)), (mz, .inl (cI, 3, .inl sz)), (mh, .inl (cI, 224, .inl v41)), (me, .inl (cI, 32, .inl tb))]) rfl (q0 := 0) rfl cv_M_129_M rfl rfl ⟨Nat.le_of_ble_eq_true rfl, Nat.le_of_ble_eq_true rfl⟩ hf0 rfl (Nat.le_of_ble_eq_true rfl) zd_M_readZero_180 rfl ?_
                    obtain ⟨q1, q2, q3, q4⟩ := inj4 h
                    subst q1
                    subst q2
                    subst q3
                    subst q4
                    exact G_lv [0, 1, 2, 3, 4] rfl X183
                  have h := hj171
                  refine G_icmp_gt F zd_M_readZero_163 (tgt := 170) rfl (fun h0 => ?_) (fun h0 => ?_)
                  · have h := iP h h0
                    refine G_iconst (v := (0 : Int32)) F zd_M_readZero_170 (by decide) ?_
                    have q1 := Option.some.inj h
                    subst q1
                    exact G_lv [1, 2, 3, 4, 5, 6, 7, 8, 0] rfl X171
                  · have h := iN h h0
                    refine G_iconst (v := (1 : Int32)) F zd_M_readZero_166 (by decide) ?_
                    refine G_goto F zd_M_readZero_167 (tgt := 171) rfl ?_
                    have q1 := Option.some.inj h
                    subst q1
                    exact G_lv [1, 2, 3, 4, 5, 6, 7, 8, 0] rfl X171
                have h := hj135
                refine G_if_le F zd_M_readZero_118 (tgt := 134) rfl (fun h0 => ?_) (fun h0 => ?_)
                · have h := iP h h0
                  refine G_iconst (v := (0 : Int32)) F zd_M_readZero_134 (by decide) ?_
                  have q1 := Option.some.inj h
                  subst q1
                  exact G_lv [4, 3, 5, 6, 7, 2, 1, 0] rfl X135
                · have h := iN h h0
                  refine G_iload F zd_M_readZero_121 (j := 0) rfl ?_
                  refine G_aload_n F zd_M_readZero_123 rfl (j := 4) rfl ?_
                  refine G_get F fa_M_57_M (q := 0) zd_M_readZero_124 rfl rfl ?_
                  refine G_icmp_gt F zd_M_readZero_127 (tgt := 134) rfl (fun h0 => ?_) (fun h0 => ?_)
                  · have h := iP h h0
                    refine G_iconst (v := (0 : Int32)) F zd_M_readZero_134 (by decide) ?_
                    have q1 := Option.some.inj h
                    subst q1
                    exact G_lv [4, 3, 5, 6, 7, 2, 1, 0] rfl X135
                  · have h := iN h h0
                    refine G_iconst (v := (1 : Int32)) F zd_M_readZero_130 (by decide) ?_
                    refine G_goto F zd_M_readZero_131 (tgt := 135) rfl ?_
                    have q1 := Option.some.inj h
                    subst q1
                    exact G_lv [4, 3, 5, 6, 7, 2, 1, 0] rfl X135
          have h := hj79
          refine G_icmp_ge F zd_M_readZero_71 (tgt := 78) rfl (fun h0 => ?_) (fun h0 => ?_)
          · have h := iP h h0
            refine G_iconst (v := (0 : Int32)) F zd_M_readZero_78 (by decide) ?_
            have q1 := Option.some.inj h
            subst q1
            exact G_lv [0, 1, 2, 3, 4] rfl X79
          · have h := iN h h0
            refine G_iconst (v := (1 : Int32)) F zd_M_readZero_74 (by decide) ?_
            refine G_goto F zd_M_readZero_75 (tgt := 79) rfl ?_
            have q1 := Option.some.inj h
            subst q1
            exact G_lv [0, 1, 2, 3, 4] rfl X79
        have h := hj51
        refine G_icmp_gt F zd_M_readZero_43 (tgt := 50) rfl (fun h0 => ?_) (fun h0 => ?_)
        · have h := iP h h0
          refine G_iconst (v := (0 : Int32)) F zd_M_readZero_50 (by decide) ?_
          have q1 := Option.some.inj h
          subst q1
          exact G_lv [3, 4, 2, 1, 0] rfl X51
        · have h := iN h h0
          refine G_iconst (v := (1 : Int32)) F zd_M_readZero_46 (by decide) ?_
          refine G_goto F zd_M_readZero_47 (tgt := 51) rfl ?_
          have q1 := Option.some.inj h
          subst q1
          exact G_lv [3, 4, 2, 1, 0] rfl X51
set_option maxHeartbeats 4000000 in
set_option maxRecDepth 100000 in
theorem zk_M_readZero (l : Launch) (D : va_G) (cB cI cJ : ClassId) (ma : Nat) (mb : Nat) (mz : Nat) (mh : Nat) (me : Nat) (th : Int32) (mf : Nat → Int32) (sz : Nat → Int32) (mc : Int32) (cp : Int32) (hi : Nat → Int32) (bg : Int32) (en : Int32) (tb : Nat → Int32) (ou : Int32) (mp : Int32) (fa : Int32) (en' : Int32) (mp' : Int32) (fa' : Int32) (hi' : Nat → Int32) (h : zf_M_readZero mf sz hi bg en mp fa = some (en', mp', fa', hi')) : CoV l zy_M_readZero zw_M_readZero { frames := 3, cells := 0, slots := 0, locals := 65 } D cB cI cJ [.ref ma] [(ma, .inr (8, [.int th, .ref mb, .ref mz, .int mc, .int cp, .ref mh, .int bg, .int en, .ref me, .int ou, .int mp, .int fa])), (mb, .inl (cI, 600, .inl mf)), (mz, .inl (cI, 3, .inl sz)), (mh, .inl (cI, 224, .inl hi)), (me, .inl (cI, 32, .inl tb))] [(ma, .inr (8, [.int th, .ref mb, .ref mz, .int mc, .int cp, .ref mh, .int bg, .int en', .ref me, .int ou, .int mp', .int fa'])), (mb, .inl (cI, 600, .inl mf)), (mz, .inl (cI, 3, .inl sz)), (mh, .inl (cI, 224, .inl hi')), (me, .inl (cI, 32, .inl tb))] := by
  unfold zf_M_readZero at h
  refine CoV.ofG (cc := zc_M_readZero) (maxL := 9) (own := RX10) (by decide) rfl rfl rfl trivial (Nat.le_of_ble_eq_true rfl) (L0 := [(0, .ref ma)]) rfl (fun k F E => ?_)
  refine G_iconst (v := (1 : Int32)) F zd_M_readZero_0 (by decide) ?_
  refine G_istore_n F zd_M_readZero_1 rfl (by decide) (L' := [(1, .int (1 : Int32)), (0, .ref ma)]) rfl ?_
  obtain ⟨x42, x43, x44, x45, x46, hl2, h⟩ := bc5_s h
  refine G_lv [1, 0] rfl (zl_M_readZero_2 F th mf sz mc cp bg tb ou ma mb mz mh me 1000 (1 : Int32) en mp fa hi x42 x43 x44 x45 x46 hl2 ?_)
  obtain ⟨q1, q2, q3, q4⟩ := inj4 h
  subst q1
  subst q2
  subst q3
  subst q4
  exact E 186 _ zd_M_readZero_186

set_option maxHeartbeats 4000000 in
set_option maxRecDepth 100000 in
theorem zk_M_element (l : Launch) (D : va_G) (cB cI cJ : ClassId) (ma : Nat) (mb : Nat) (mz : Nat) (mh : Nat) (me : Nat) (th : Int32) (mf : Nat → Int32) (sz : Nat → Int32) (mc : Int32) (cp : Int32) (hi : Nat → Int32) (bg : Int32) (en : Int32) (tb : Nat → Int32) (ou : Int32) (mp : Int32) (fa : Int32) (i1 : Int32) (en' : Int32) (mp' : Int32) (fa' : Int32) (hi' : Nat → Int32) (h : zf_M_element mf sz hi bg en mp fa i1 = some (en', mp', fa', hi')) : CoV l zy_M_element zw_M_element { frames := 3, cells := 0, slots := 0, locals := 65 } D cB cI cJ [.ref ma, .int i1] [(ma, .inr (8, [.int th, .ref mb, .ref mz, .int mc, .int cp, .ref mh, .int bg, .int en, .ref me, .int ou, .int mp, .int fa])), (mb, .inl (cI, 600, .inl mf)), (mz, .inl (cI, 3, .inl sz)), (mh, .inl (cI, 224, .inl hi)), (me, .inl (cI, 32, .inl tb))] [(ma, .inr (8, [.int th, .ref mb, .ref mz, .int mc, .int cp, .ref mh, .int bg, .int en', .ref me, .int ou, .int mp', .int fa'])), (mb, .inl (cI, 600, .inl mf)), (mz, .inl (cI, 3, .inl sz)), (mh, .inl (cI, 224, .inl hi')), (me, .inl (cI, 32, .inl tb))] := by
  unfold zf_M_element at h
  refine CoV.ofG (cc := zc_M_element) (maxL := 8) (own := RX10) (by decide) rfl rfl rfl trivial (Nat.le_of_ble_eq_true rfl) (L0 := [(0, .ref ma), (1, .int i1)]) rfl (fun k F E => ?_)
  refine G_aload_n F zd_M_element_0 rfl (j := 0) rfl ?_
  refine G_get F fa_M_109_M (q := 0) zd_M_element_1 rfl rfl ?_
  refine G_istore_n F zd_M_element_4 rfl (by decide) (L' := [(2, .int mp), (0, .ref ma), (1, .int i1)]) rfl ?_
  refine G_aload_n F zd_M_element_5 rfl (j := 1) rfl ?_
  obtain ⟨v1, v2, v3, hc6, h⟩ := bc3_s h
  refine G_calliV F (zk_M_next l D cB cI cJ ma mb mz mh me th mf sz mc cp hi bg en tb ou mp fa v1 v2 v3 hc6) (rest := []) [0, 1, 2, 3, 4] rfl rfl rfl (ws' := [(ma, .inr (8, [.int th, .ref mb, .ref mz, .int mc, .int cp, .ref mh, .int bg, .int en, .ref me, .int ou, .int v2, .int v3])), (mb, .inl (cI, 600, .inl mf)), (mz, .inl (cI, 3, .inl sz)), (mh, .inl (cI, 224, .inl hi)), (me, .inl (cI, 32, .inl tb))]) rfl (q0 := 0) rfl cv_M_116_M rfl rfl ⟨Nat.le_of_ble_eq_true rfl, Nat.le_of_ble_eq_true rfl⟩ hf0 rfl (Nat.le_of_ble_eq_true rfl) zd_M_element_6 rfl ?_
  refine G_istore_n F zd_M_element_9 rfl (by decide) (L' := [(3, .int v1), (2, .int mp), (0, .ref ma), (1, .int i1)]) rfl ?_
  refine G_iload_n F zd_M_element_10 rfl (j := 0) rfl ?_
  refine G_iconst (v := (3 : Int32)) F zd_M_element_11 (by decide) ?_
  refine G_iand F zd_M_element_12 ?_
  obtain ⟨v4, ev4, h⟩ := bnd_s h
  refine G_topi ev4 ?_
  refine G_istore F zd_M_element_13 (by decide) (L' := [(4, .int v4), (3, .int v1), (2, .int mp), (0, .ref ma), (1, .int i1)]) rfl ?_
  refine G_aload_n F zd_M_element_15 rfl (j := 3) rfl ?_
  refine G_iload F zd_M_element_16 (j := 0) rfl ?_
  refine G_iconst (v := (3 : Int32)) F zd_M_element_18 (by decide) ?_
  obtain ⟨u5, hj40, h⟩ := bc1_s h
  have X40 : G D 8 k 0 0 40 [(0, .ref ma), (1, .int i1), (2, .int mp), (3, .int v1), (4, .int v4)] [.int u5, .ref ma] [(ma, .inr (8, [.int th, .ref mb, .ref mz, .int mc, .int cp, .ref mh, .int bg, .int en, .ref me, .int ou, .int v2, .int v3])), (mb, .inl (cI, 600, .inl mf)), (mz, .inl (cI, 3, .inl sz)), (mh, .inl (cI, 224, .inl hi)), (me, .inl (cI, 32, .inl tb))] := by
    refine G_iload_n F zd_M_element_40 rfl (j := 2) rfl ?_
    obtain ⟨v6, hc41, h⟩ := bc1_s h
    refine G_callvV F (zk_M_need l D cB cI cJ ma mb mz mh me th mf sz mc cp hi bg en tb ou v2 v3 u5 mp v6 hc41) (rest := []) [0, 1, 2, 3, 4] rfl rfl rfl (ws' := [(ma, .inr (8, [.int th, .ref mb, .ref mz, .int mc, .int cp, .ref mh, .int bg, .int en, .ref me, .int ou, .int v2, .int v6])), (mb, .inl (cI, 600, .inl mf)), (mz, .inl (cI, 3, .inl sz)), (mh, .inl (cI, 224, .inl hi)), (me, .inl (cI, 32, .inl tb))]) rfl (q0 := 0) rfl cv_M_112_M rfl rfl ⟨Nat.le_of_ble_eq_true rfl, Nat.le_of_ble_eq_true rfl⟩ hf0 rfl (Nat.le_of_ble_eq_true rfl) zd_M_element_41 rfl ?_
    refine G_iload F zd_M_element_44 (j := 4) rfl ?_
    obtain ⟨u7, hj79, h⟩ := bc1_s h
    have X79 : G D 8 k 0 0 79 [(0, .ref ma), (1, .int i1), (2, .int mp), (3, .int v1), (4, .int v4)] [.int u7] [(ma, .inr (8, [.int th, .ref mb, .ref mz, .int mc, .int cp, .ref mh, .int bg, .int en, .ref me, .int ou, .int v2, .int v6])), (mb, .inl (cI, 600, .inl mf)), (mz, .inl (cI, 3, .inl sz)), (mh, .inl (cI, 224, .inl hi)), (me, .inl (cI, 32, .inl tb))] := by
      refine G_istore F zd_M_element_79 (by decide) (L' := [(5, .int u7), (0, .ref ma), (1, .int i1), (2, .int mp), (3, .int v1), (4, .int v4)]) rfl ?_
      refine G_iload F zd_M_element_81 (j := 5) rfl ?_
      refine G_if_ne F zd_M_element_83 (tgt := 129) rfl (fun h0 => ?_) (fun h0 => ?_)
      · have h := iN h h0
        refine G_iload F zd_M_element_129 (j := 5) rfl ?_
        refine G_iconst (v := (1 : Int32)) F zd_M_element_131 (by decide) ?_
        obtain ⟨u8, hj143, h⟩ := bc1_s h
        have X143 : G D 8 k 0 0 143 [(0, .ref ma), (1, .int i1), (2, .int mp), (3, .int v1), (4, .int v4), (5, .int u7)] [.int u8] [(ma, .inr (8, [.int th, .ref mb, .ref mz, .int mc, .int cp, .ref mh, .int bg, .int en, .ref me, .int ou, .int v2, .int v6])), (mb, .inl (cI, 600, .inl mf)), (mz, .inl (cI, 3, .inl sz)), (mh, .inl (cI, 224, .inl hi)), (me, .inl (cI, 32, .inl tb))] := by
          refine G_istore F zd_M_element_143 (by decide) (L' := [(6, .int u8), (0, .ref ma), (1, .int i1), (2, .int mp), (3, .int v1), (4, .int v4), (5, .int u7)]) rfl ?_
          refine G_aload_n F zd_M_element_145 rfl (j := 1) rfl ?_
          obtain ⟨v9, v10, v11, hc146, h⟩ := bc3_s h
          refine G_calliV F (zk_M_next l D cB cI cJ ma mb mz mh me th mf sz mc cp hi bg en tb ou v2 v6 v9 v10 v11 hc146) (rest := []) [0, 1, 2, 3, 4] rfl rfl rfl (ws' := [(ma, .inr (8, [.int th, .ref mb, .ref mz, .int mc, .int cp, .ref mh, .int bg, .int en, .ref me, .int ou, .int v10, .int v11])), (mb, .inl (cI, 600, .inl mf)), (mz, .inl (cI, 3, .inl sz)), (mh, .inl (cI, 224, .inl hi)), (me, .inl (cI, 32, .inl tb))]) rfl (q0 := 0) rfl cv_M_116_M rfl rfl ⟨Nat.le_of_ble_eq_true rfl, Nat.le_of_ble_eq_true rfl⟩ hf0 rfl (Nat.le_of_ble_eq_true rfl) zd_M_element_146 rfl ?_
          refine G_istore F zd_M_element_149 (by decide) (L' := [(7, .int v9), (6, .int u8), (0, .ref ma), (1, .int i1), (2, .int mp), (3, .int v1), (4, .int v4), (5, .int u7)]) rfl ?_
          refine G_iload F zd_M_element_151 (j := 6) rfl ?_
          refine G_iconst (v := (1 : Int32)) F zd_M_element_153 (by decide) ?_
          obtain ⟨u12, u13, u14, hj180, h⟩ := bc3_s h
          have X180 : G D 8 k 0 0 180 [(0, .ref ma), (1, .int i1), (2, .int mp), (3, .int v1), (4, .int v4), (5, .int u7), (6, .int u8), (7, .int v9)] [.int u12] [(ma, .inr (8, [.int th, .ref mb, .ref mz, .int mc, .int cp, .ref mh, .int bg, .int en, .ref me, .int ou, .int u13, .int u14])), (mb, .inl (cI, 600, .inl mf)), (mz, .inl (cI, 3, .inl sz)), (mh, .inl (cI, 224, .inl hi)), (me, .inl (cI, 32, .inl tb))] := by
            refine G_istore F zd_M_element_180 (by decide) (L' := [(7, .int u12), (0, .ref ma), (1, .int i1), (2, .int mp), (3, .int v1), (4, .int v4), (5, .int u7), (6, .int u8)]) rfl ?_
            refine G_aload_n F zd_M_element_182 rfl (j := 1) rfl ?_
            refine G_iload F zd_M_element_183 (j := 0) rfl ?_
            obtain ⟨u18, hj202, h⟩ := bc1_s h
            have X202 : G D 8 k 0 0 202 [(0, .ref ma), (1, .int i1), (2, .int mp), (3, .int v1), (4, .int v4), (5, .int u7), (6, .int u8), (7, .int u12)] [.int u18, .ref ma] [(ma, .inr (8, [.int th, .ref mb, .ref mz, .int mc, .int cp, .ref mh, .int bg, .int en, .ref me, .int ou, .int u13, .int u14])), (mb, .inl (cI, 600, .inl mf)), (mz, .inl (cI, 3, .inl sz)), (mh, .inl (cI, 224, .inl hi)), (me, .inl (cI, 32, .inl tb))] := by
              refine G_iload F zd_M_element_202 (j := 6) rfl ?_
              obtain ⟨v19, hc204, h⟩ := bc1_s h
              refine G_callvV F (zk_M_need l D cB cI cJ ma mb mz mh me th mf sz mc cp hi bg en tb ou u13 u14 u18 u8 v19 hc204) (rest := []) [0, 1, 2, 3, 4] rfl rfl rfl (ws' := [(ma, .inr (8, [.int th, .ref mb, .ref mz, .int mc, .int cp, .ref mh, .int bg, .int en, .ref me, .int ou, .int u13, .int v19])), (mb, .inl (cI, 600, .inl mf)), (mz, .inl (cI, 3, .inl sz)), (mh, .inl (cI, 224, .inl hi)), (me, .inl (cI, 32, .inl tb))]) rfl (q0 := 0) rfl cv_M_112_M rfl rfl ⟨Nat.le_of_ble_eq_true rfl, Nat.le_of_ble_eq_true rfl⟩ hf0 rfl (Nat.le_of_ble_eq_true rfl) zd_M_element_204 rfl ?_
              refine G_aload_n F zd_M_element_207 rfl (j := 0) rfl ?_
              refine G_aload_n F zd_M_element_208 rfl (j := 0) rfl ?_
              obtain ⟨v20, hc209, h⟩ := bc1_s h
              refine G_calliV0 F (zk_M_made l D cB cI cJ ma mb mz mh me th mf sz mc cp hi bg en tb ou u13 v19 v20 hc209) (rest := [.ref ma]) [0, 1, 2, 3, 4] rfl rfl (q0 := 0) rfl cv_M_123_M rfl rfl ⟨Nat.le_of_ble_eq_true rfl, Nat.le_of_ble_eq_true rfl⟩ hf0 rfl (Nat.le_of_ble_eq_true rfl) zd_M_element_209 rfl ?_
              refine G_iload F zd_M_element_212 (j := 5) rfl ?_
              refine G_iadd F zd_M_element_214 ?_
              refine G_iload_n F zd_M_element_215 rfl (j := 1) rfl ?_
              obtain ⟨u21, hj224, h⟩ := bc1_s h
              have X224 : G D 8 k 0 0 224 [(0, .ref ma), (1, .int i1), (2, .int mp), (3, .int v1), (4, .int v4), (5, .int u7), (6, .int u8), (7, .int u12)] [.int u21, .ref ma] [(ma, .inr (8, [.int th, .ref mb, .ref mz, .int mc, .int cp, .ref mh, .int bg, .int en, .ref me, .int ou, .int u13, .int v19])), (mb, .inl (cI, 600, .inl mf)), (mz, .inl (cI, 3, .inl sz)), (mh, .inl (cI, 224, .inl hi)), (me, .inl (cI, 32, .inl tb))] := by
                refine G_iload_n F zd_M_element_224 rfl (j := 2) rfl ?_
                obtain ⟨v22, hc225, h⟩ := bc1_s h
                refine G_callvV F (zk_M_need l D cB cI cJ ma mb mz mh me th mf sz mc cp hi bg en tb ou u13 v19 u21 mp v22 hc225) (rest := []) [0, 1, 2, 3, 4] rfl rfl rfl (ws' := [(ma, .inr (8, [.int th, .ref mb, .ref mz, .int mc, .int cp, .ref mh, .int bg, .int en, .ref me, .int ou, .int u13, .int v22])), (mb, .inl (cI, 600, .inl mf)), (mz, .inl (cI, 3, .inl sz)), (mh, .inl (cI, 224, .inl hi)), (me, .inl (cI, 32, .inl tb))]) rfl (q0 := 0) rfl cv_M_112_M rfl rfl ⟨Nat.le_of_ble_eq_true rfl, Nat.le_of_ble_eq_true rfl⟩ hf0 rfl (Nat.le_of_ble_eq_true rfl) zd_M_element_225 rfl ?_
                refine G_aload_n F zd_M_element_228 rfl (j := 0) rfl ?_
                refine G_iload F zd_M_element_229 (j := 5) rfl ?_
                refine G_iload F zd_M_element_231 (j := 7) rfl ?_
                obtain ⟨v23, v24, hc233, h⟩ := bc2_s h
                refine G_callvV F (zk_M_copies l D cB cI cJ ma mb mz mh me th mf sz mc cp hi bg en tb ou u13 v22 u7 u12 v23 v24 hc233) (rest := []) [0, 1, 2, 3, 4] rfl rfl rfl (ws' := [(ma, .inr (8, [.int th, .ref mb, .ref mz, .int mc, .int cp, .ref mh, .int bg, .int v23, .ref me, .int ou, .int u13, .int v22])), (mb, .inl (cI, 600, .inl mf)), (mz, .inl (cI, 3, .inl sz)), (mh, .inl (cI, 224, .inl v24)), (me, .inl (cI, 32, .inl tb))]) rfl (q0 := 0) rfl cv_M_129_M rfl rfl ⟨Nat.le_of_ble_eq_true rfl, Nat.le_of_ble_eq_true rfl⟩ hf0 rfl (Nat.le_of_ble_eq_true rfl) zd_M_element_233 rfl ?_
                obtain ⟨q1, q2, q3, q4⟩ := inj4 h
                subst q1
                subst q2
                subst q3
                subst q4
                exact E 236 _ zd_M_element_236
              have h := hj224
              refine G_icmp_gt F zd_M_element_216 (tgt := 223) rfl (fun h0 => ?_) (fun h0 => ?_)
              · have h := iP h h0
                refine G_iconst (v := (0 : Int32)) F zd_M_element_223 (by decide) ?_
                have q1 := Option.some.inj h
                subst q1
                exact G_lv [0, 1, 2, 3, 4, 5, 6, 7] rfl X224
              · have h := iN h h0
                refine G_iconst (v := (1 : Int32)) F zd_M_element_219 (by decide) ?_
                refine G_goto F zd_M_element_220 (tgt := 224) rfl ?_
                have q1 := Option.some.inj h
                subst q1
                exact G_lv [0, 1, 2, 3, 4, 5, 6, 7] rfl X224
            have h := hj202
            refine G_if_le F zd_M_element_185 (tgt := 201) rfl (fun h0 => ?_) (fun h0 => ?_)
            · have h := iP h h0
              refine G_iconst (v := (0 : Int32)) F zd_M_element_201 (by decide) ?_
              have q1 := Option.some.inj h
              subst q1
              exact G_lv [1, 2, 3, 4, 5, 6, 7, 0] rfl X202
            · have h := iN h h0
              refine G_iload F zd_M_element_188 (j := 0) rfl ?_
              refine G_aload_n F zd_M_element_190 rfl (j := 1) rfl ?_
              refine G_get F fa_M_57_M (q := 0) zd_M_element_191 rfl rfl ?_
              refine G_icmp_gt F zd_M_element_194 (tgt := 201) rfl (fun h0 => ?_) (fun h0 => ?_)
              · have h := iP h h0
                refine G_iconst (v := (0 : Int32)) F zd_M_element_201 (by decide) ?_
                have q1 := Option.some.inj h
                subst q1
                exact G_lv [1, 2, 3, 4, 5, 6, 7, 0] rfl X202
              · have h := iN h h0
                refine G_iconst (v := (1 : Int32)) F zd_M_element_197 (by decide) ?_
                refine G_goto F zd_M_element_198 (tgt := 202) rfl ?_
                have q1 := Option.some.inj h
                subst q1
                exact G_lv [1, 2, 3, 4, 5, 6, 7, 0] rfl X202
          have h := hj180
          refine G_icmp_ne F zd_M_element_154 (tgt := 170) rfl (fun h0 => ?_) (fun h0 => ?_)
          · have h := iN h h0
            refine G_iload F zd_M_element_170 (j := 0) rfl ?_
            refine G_aload_n F zd_M_element_172 rfl (j := 2) rfl ?_
            obtain ⟨v15, v16, v17, hc173, h⟩ := bc3_s h
            refine G_calliV F (zk_M_next l D cB cI cJ ma mb mz mh me th mf sz mc cp hi bg en tb ou v10 v11 v15 v16 v17 hc173) (rest := [.int v9]) [0, 1, 2, 3, 4] rfl rfl rfl (ws' := [(ma, .inr (8, [.int th, .ref mb, .ref mz, .int mc, .int cp, .ref mh, .int bg, .int en, .ref me, .int ou, .int v16, .int v17])), (mb, .inl (cI, 600, .inl mf)), (mz, .inl (cI, 3, .inl sz)), (mh, .inl (cI, 224, .inl hi)), (me, .inl (cI, 32, .inl tb))]) rfl (q0 := 0) rfl cv_M_116_M rfl rfl ⟨Nat.le_of_ble_eq_true rfl, Nat.le_of_ble_eq_true rfl⟩ hf0 rfl (Nat.le_of_ble_eq_true rfl) zd_M_element_173 rfl ?_
            refine G_bipush (v := (8 : Int32)) F zd_M_element_176 (by decide) ?_
            refine G_ishl F zd_M_element_178 ?_
            refine G_ior F zd_M_element_179 ?_
            obtain ⟨q1, q2, q3⟩ := inj3 h
            subst q1
            subst q2
            subst q3
            exact G_lv [2, 3, 4, 5, 6, 7, 1, 0] rfl X180
          · have h := iP h h0
            refine G_iload F zd_M_element_157 (j := 0) rfl ?_
            refine G_iload_n F zd_M_element_159 rfl (j := 5) rfl ?_
            refine G_iconst (v := (5 : Int32)) F zd_M_element_160 (by decide) ?_
            refine G_ishr F zd_M_element_161 ?_
            refine G_sipush (v := (256 : Int32)) F zd_M_element_162 (by decide) ?_
            refine G_imul F zd_M_element_165 ?_
            refine G_iadd F zd_M_element_166 ?_
            refine G_goto F zd_M_element_167 (tgt := 180) rfl ?_
            obtain ⟨q1, q2, q3⟩ := inj3 h
            subst q1
            subst q2
            subst q3
            exact G_lv [2, 3, 4, 5, 6, 7, 1, 0] rfl X180
        have h := hj143
        refine G_icmp_ne F zd_M_element_132 (tgt := 139) rfl (fun h0 => ?_) (fun h0 => ?_)
        · have h := iN h h0
          refine G_aload_n F zd_M_element_139 rfl (j := 1) rfl ?_
          refine G_get F fa_M_109_M (q := 0) zd_M_element_140 rfl rfl ?_
          have q1 := Option.some.inj h
          subst q1
          exact G_lv [1, 2, 3, 4, 5, 0] rfl X143
        · have h := iP h h0
          refine G_iload_n F zd_M_element_135 rfl (j := 3) rfl ?_
          refine G_goto F zd_M_element_136 (tgt := 143) rfl ?_
          have q1 := Option.some.inj h
          subst q1
          exact G_lv [1, 2, 3, 4, 5, 0] rfl X143
      · have h := iP h h0
        refine G_iload F zd_M_element_86 (j := 0) rfl ?_
        refine G_bipush (v := (61 : Int32)) F zd_M_element_88 (by decide) ?_
        obtain ⟨u25, u26, u27, hj101, h⟩ := bc3_s h
        have X101 : G D 8 k 0 0 101 [(0, .ref ma), (1, .int i1), (2, .int mp), (3, .int v1), (4, .int v4), (5, .int u25)] [] [(ma, .inr (8, [.int th, .ref mb, .ref mz, .int mc, .int cp, .ref mh, .int bg, .int en, .ref me, .int ou, .int u26, .int u27])), (mb, .inl (cI, 600, .inl mf)), (mz, .inl (cI, 3, .inl sz)), (mh, .inl (cI, 224, .inl hi)), (me, .inl (cI, 32, .inl tb))] := by
          refine G_aload_n F zd_M_element_101 rfl (j := 0) rfl ?_
          refine G_aload_n F zd_M_element_102 rfl (j := 0) rfl ?_
          obtain ⟨v32, hc103, h⟩ := bc1_s h
          refine G_calliV0 F (zk_M_made l D cB cI cJ ma mb mz mh me th mf sz mc cp hi bg en tb ou u26 u27 v32 hc103) (rest := [.ref ma]) [0, 1, 2, 3, 4] rfl rfl (q0 := 0) rfl cv_M_123_M rfl rfl ⟨Nat.le_of_ble_eq_true rfl, Nat.le_of_ble_eq_true rfl⟩ hf0 rfl (Nat.le_of_ble_eq_true rfl) zd_M_element_103 rfl ?_
          refine G_iload F zd_M_element_106 (j := 5) rfl ?_
          refine G_iadd F zd_M_element_108 ?_
          refine G_iload_n F zd_M_element_109 rfl (j := 1) rfl ?_
          obtain ⟨u33, hj118, h⟩ := bc1_s h
          have X118 : G D 8 k 0 0 118 [(0, .ref ma), (1, .int i1), (2, .int mp), (3, .int v1), (4, .int v4), (5, .int u25)] [.int u33, .ref ma] [(ma, .inr (8, [.int th, .ref mb, .ref mz, .int mc, .int cp, .ref mh, .int bg, .int en, .ref me, .int ou, .int u26, .int u27])), (mb, .inl (cI, 600, .inl mf)), (mz, .inl (cI, 3, .inl sz)), (mh, .inl (cI, 224, .inl hi)), (me, .inl (cI, 32, .inl tb))] := by
            refine G_iload_n F zd_M_element_118 rfl (j := 2) rfl ?_
            obtain ⟨v34, hc119, h⟩ := bc1_s h
            refine G_callvV F (zk_M_need l D cB cI cJ ma mb mz mh me th mf sz mc cp hi bg en tb ou u26 u27 u33 mp v34 hc119) (rest := []) [0, 1, 2, 3, 4] rfl rfl rfl (ws' := [(ma, .inr (8, [.int th, .ref mb, .ref mz, .int mc, .int cp, .ref mh, .int bg, .int en, .ref me, .int ou, .int u26, .int v34])), (mb, .inl (cI, 600, .inl mf)), (mz, .inl (cI, 3, .inl sz)), (mh, .inl (cI, 224, .inl hi)), (me, .inl (cI, 32, .inl tb))]) rfl (q0 := 0) rfl cv_M_112_M rfl rfl ⟨Nat.le_of_ble_eq_true rfl, Nat.le_of_ble_eq_true rfl⟩ hf0 rfl (Nat.le_of_ble_eq_true rfl) zd_M_element_119 rfl ?_
            refine G_aload_n F zd_M_element_122 rfl (j := 0) rfl ?_
            refine G_iload F zd_M_element_123 (j := 5) rfl ?_
            obtain ⟨v35, v36, v37, v38, hc125, h⟩ := bc4_s h
            refine G_callvV F (zk_M_literals l D cB cI cJ ma mb mz mh me th mf sz mc cp hi bg en tb ou u26 v34 u25 v35 v36 v37 v38 hc125) (rest := []) [0, 1, 2, 3, 4] rfl rfl rfl (ws' := [(ma, .inr (8, [.int th, .ref mb, .ref mz, .int mc, .int cp, .ref mh, .int bg, .int v35, .ref me, .int ou, .int v36, .int v37])), (mb, .inl (cI, 600, .inl mf)), (mz, .inl (cI, 3, .inl sz)), (mh, .inl (cI, 224, .inl v38)), (me, .inl (cI, 32, .inl tb))]) rfl (q0 := 0) rfl cv_M_126_M rfl rfl ⟨Nat.le_of_ble_eq_true rfl, Nat.le_of_ble_eq_true rfl⟩ hf0 rfl (Nat.le_of_ble_eq_true rfl) zd_M_element_125 rfl ?_
            obtain ⟨q1, q2, q3, q4⟩ := inj4 h
            subst q1
            subst q2
            subst q3
            subst q4
            exact E 128 _ zd_M_element_128
          have h := hj118
          refine G_icmp_gt F zd_M_element_110 (tgt := 117) rfl (fun h0 => ?_) (fun h0 => ?_)
          · have h := iP h h0
            refine G_iconst (v := (0 : Int32)) F zd_M_element_117 (by decide) ?_
            have q1 := Option.some.inj h
            subst q1
            exact G_lv [0, 1, 2, 3, 4, 5] rfl X118
          · have h := iN h h0
            refine G_iconst (v := (1 : Int32)) F zd_M_element_113 (by decide) ?_
            refine G_goto F zd_M_element_114 (tgt := 118) rfl ?_
            have q1 := Option.some.inj h
            subst q1
            exact G_lv [0, 1, 2, 3, 4, 5] rfl X118
        have h := hj101
        refine G_icmp_ne F zd_M_element_90 (tgt := 101) rfl (fun h0 => ?_) (fun h0 => ?_)
        · have h := iN h h0
          obtain ⟨q1, q2, q3⟩ := inj3 h
          subst q1
          subst q2
          subst q3
          exact G_lv [1, 2, 3, 4, 5, 0] rfl X101
        · have h := iP h h0
          refine G_aload_n F zd_M_element_93 rfl (j := 1) rfl ?_
          obtain ⟨v28, v29, v30, hc94, h⟩ := bc3_s h
          refine G_calliV F (zk_M_next l D cB cI cJ ma mb mz mh me th mf sz mc cp hi bg en tb ou v2 v6 v28 v29 v30 hc94) (rest := []) [0, 1, 2, 3, 4] rfl rfl rfl (ws' := [(ma, .inr (8, [.int th, .ref mb, .ref mz, .int mc, .int cp, .ref mh, .int bg, .int en, .ref me, .int ou, .int v29, .int v30])), (mb, .inl (cI, 600, .inl mf)), (mz, .inl (cI, 3, .inl sz)), (mh, .inl (cI, 224, .inl hi)), (me, .inl (cI, 32, .inl tb))]) rfl (q0 := 0) rfl cv_M_116_M rfl rfl ⟨Nat.le_of_ble_eq_true rfl, Nat.le_of_ble_eq_true rfl⟩ hf0 rfl (Nat.le_of_ble_eq_true rfl) zd_M_element_94 rfl ?_
          refine G_iconst (v := (1 : Int32)) F zd_M_element_97 (by decide) ?_
          refine G_iadd F zd_M_element_98 ?_
          obtain ⟨v31, ev31, h⟩ := bnd_s h
          refine G_topi ev31 ?_
          refine G_istore F zd_M_element_99 (by decide) (L' := [(5, .int v31), (0, .ref ma), (1, .int i1), (2, .int mp), (3, .int v1), (4, .int v4)]) rfl ?_
          obtain ⟨q1, q2, q3⟩ := inj3 h
          subst q1
          subst q2
          subst q3
          exact G_lv [1, 2, 3, 4, 5, 0] rfl X101
    have h := hj79
    refine G_if_ne F zd_M_element_46 (tgt := 57) rfl (fun h0 => ?_) (fun h0 => ?_)
    · have h := iN h h0
      refine G_iload F zd_M_element_57 (j := 4) rfl ?_
      refine G_iconst (v := (1 : Int32)) F zd_M_element_59 (by decide) ?_
      refine G_icmp_ne F zd_M_element_60 (tgt := 74) rfl (fun h0 => ?_) (fun h0 => ?_)
      · have h := iN h h0
        refine G_iload_n F zd_M_element_74 rfl (j := 3) rfl ?_
        refine G_iconst (v := (2 : Int32)) F zd_M_element_75 (by decide) ?_
        refine G_ishr F zd_M_element_76 ?_
        refine G_iconst (v := (1 : Int32)) F zd_M_element_77 (by decide) ?_
        refine G_iadd F zd_M_element_78 ?_
        have q1 := Option.some.inj h
        subst q1
        exact G_lv [0, 1, 2, 3, 4] rfl X79
      · have h := iP h h0
        refine G_iload_n F zd_M_element_63 rfl (j := 3) rfl ?_
        refine G_iconst (v := (2 : Int32)) F zd_M_element_64 (by decide) ?_
        refine G_ishr F zd_M_element_65 ?_
        refine G_bipush (v := (7 : Int32)) F zd_M_element_66 (by decide) ?_
        refine G_iand F zd_M_element_68 ?_
        refine G_iconst (v := (4 : Int32)) F zd_M_element_69 (by decide) ?_
        refine G_iadd F zd_M_element_70 ?_
        refine G_goto F zd_M_element_71 (tgt := 79) rfl ?_
        have q1 := Option.some.inj h
        subst q1
        exact G_lv [0, 1, 2, 3, 4] rfl X79
    · have h := iP h h0
      refine G_iload_n F zd_M_element_49 rfl (j := 3) rfl ?_
      refine G_iconst (v := (2 : Int32)) F zd_M_element_50 (by decide) ?_
      refine G_ishr F zd_M_element_51 ?_
      refine G_iconst (v := (1 : Int32)) F zd_M_element_52 (by decide) ?_
      refine G_iadd F zd_M_element_53 ?_
      refine G_goto F zd_M_element_54 (tgt := 79) rfl ?_
      have q1 := Option.some.inj h
      subst q1
      exact G_lv [0, 1, 2, 3, 4] rfl X79
  have h := hj40
  refine G_icmp_ge F zd_M_element_19 (tgt := 39) rfl (fun h0 => ?_) (fun h0 => ?_)
  · have h := iP h h0
    refine G_iconst (v := (0 : Int32)) F zd_M_element_39 (by decide) ?_
    have q1 := Option.some.inj h
    subst q1
    exact G_lv [3, 4, 2, 1, 0] rfl X40
  · have h := iN h h0
    refine G_iload F zd_M_element_22 (j := 0) rfl ?_
    refine G_if_gt F zd_M_element_24 (tgt := 35) rfl (fun h0 => ?_) (fun h0 => ?_)
    · have h := iP h h0
      refine G_iconst (v := (1 : Int32)) F zd_M_element_35 (by decide) ?_
      refine G_goto F zd_M_element_36 (tgt := 40) rfl ?_
      have q1 := Option.some.inj h
      subst q1
      exact G_lv [3, 4, 2, 1, 0] rfl X40
    · have h := iN h h0
      refine G_iload_n F zd_M_element_27 rfl (j := 1) rfl ?_
      refine G_iconst (v := (2 : Int32)) F zd_M_element_28 (by decide) ?_
      refine G_ishr F zd_M_element_29 ?_
      refine G_bipush (v := (60 : Int32)) F zd_M_element_30 (by decide) ?_
      refine G_icmp_gt F zd_M_element_32 (tgt := 39) rfl (fun h0 => ?_) (fun h0 => ?_)
      · have h := iP h h0
        refine G_iconst (v := (0 : Int32)) F zd_M_element_39 (by decide) ?_
        have q1 := Option.some.inj h
        subst q1
        exact G_lv [3, 4, 2, 1, 0] rfl X40
      · have h := iN h h0
        refine G_iconst (v := (1 : Int32)) F zd_M_element_35 (by decide) ?_
        refine G_goto F zd_M_element_36 (tgt := 40) rfl ?_
        have q1 := Option.some.inj h
        subst q1
        exact G_lv [3, 4, 2, 1, 0] rfl X40

set_option maxHeartbeats 4000000 in
set_option maxRecDepth 100000 in
theorem zl_M_readOne_65 {k : GC} {l : Launch} {D : va_G} {cB cI cJ : ClassId} (F : GF k l { frames := 4, cells := 0, slots := 0, locals := 92 } zc_M_readOne 3 RX10 D cB cI cJ) (th : Int32) (mf : Nat → Int32) (sz : Nat → Int32) (mc : Int32) (cp : Int32) (bg : Int32) (tb : Nat → Int32) (ou : Int32) (ma : Nat) (mb : Nat) (mz : Nat) (mh : Nat) (me : Nat) (u4 : Int32) : ∀ (n : Nat) (v15 : Int32) (v16 : Int32) (v17 : Int32) (v18 : Nat → Int32) (w15 : Int32) (w16 : Int32) (w17 : Int32) (w18 : Nat → Int32), zf_M_readOne_L65 mf sz bg u4 n v15 v16 v17 v18 = some (w15, w16, w17, w18) → G D 3 k 0 0 93 [(0, .ref ma), (1, .int u4)] [] [(ma, .inr (8, [.int th, .ref mb, .ref mz, .int mc, .int cp, .ref mh, .int bg, .int w15, .ref me, .int ou, .int w16, .int w17])), (mb, .inl (cI, 600, .inl mf)), (mz, .inl (cI, 3, .inl sz)), (mh, .inl (cI, 224, .inl w18)), (me, .inl (cI, 32, .inl tb))] → G D 3 k 0 0 65 [(0, .ref ma), (1, .int u4)] [] [(ma, .inr (8, [.int th, .ref mb, .ref mz, .int mc, .int cp, .ref mh, .int bg, .int v15, .ref me, .int ou, .int v16, .int v17])), (mb, .inl (cI, 600, .inl mf)), (mz, .inl (cI, 3, .inl sz)), (mh, .inl (cI, 224, .inl v18)), (me, .inl (cI, 32, .inl tb))] := by
  intro n
  induction n with
  | zero =>
    intro v15 v16 v17 v18 w15 w16 w17 w18 h
    rw [zf_M_readOne_L65_0] at h
    cases h
  | succ n ih =>
    intro v15 v16 v17 v18 w15 w16 w17 w18 h hx
    have h := (zf_M_readOne_L65_s mf sz bg u4 n v15 v16 v17 v18).symm.trans h
    refine G_aload_n F zd_M_readOne_65 rfl (j := 0) rfl ?_
    refine G_get F fa_M_106_M (q := 0) zd_M_readOne_66 rfl rfl ?_
    refine G_if_ge F zd_M_readOne_69 (tgt := 93) rfl (fun h0 => ?_) (fun h0 => ?_)
    · have h := iP h h0
      obtain ⟨q1, q2, q3, q4⟩ := inj4 h
      subst q1
      subst q2
      subst q3
      subst q4
      exact G_lv [0, 1] rfl hx
    · have h := iN h h0
      refine G_aload_n F zd_M_readOne_72 rfl (j := 0) rfl ?_
      refine G_get F fa_M_109_M (q := 0) zd_M_readOne_73 rfl rfl ?_
      refine G_aload_n F zd_M_readOne_76 rfl (j := 0) rfl ?_
      refine G_get F fa_M_13_M (q := 0) zd_M_readOne_77 rfl rfl ?_
      refine G_iconst (v := (1 : Int32)) F zd_M_readOne_80 (by decide) ?_
      obtain ⟨h0, h⟩ := gd_s h
      refine G_iaload F zd_M_readOne_81 (q := 2) rfl h0 ?_
      refine G_icmp_ge F zd_M_readOne_82 (tgt := 93) rfl (fun h0 => ?_) (fun h0 => ?_)
      · have h := iP h h0
        obtain ⟨q1, q2, q3, q4⟩ := inj4 h
        subst q1
        subst q2
        subst q3
        subst q4
        exact G_lv [0, 1] rfl hx
      · have h := iN h h0
        refine G_aload_n F zd_M_readOne_85 rfl (j := 0) rfl ?_
        refine G_iload_n F zd_M_readOne_86 rfl (j := 1) rfl ?_
        obtain ⟨v19, v20, v21, v22, hc87, h⟩ := bc4_s h
        refine G_callvV F (zk_M_element l D cB cI cJ ma mb mz mh me th mf sz mc cp v18 bg v15 tb ou v16 v17 u4 v19 v20 v21 v22 hc87) (rest := []) [0, 1, 2, 3, 4] rfl rfl rfl (ws' := [(ma, .inr (8, [.int th, .ref mb, .ref mz, .int mc, .int cp, .ref mh, .int bg, .int v19, .ref me, .int ou, .int v20, .int v21])), (mb, .inl (cI, 600, .inl mf)), (mz, .inl (cI, 3, .inl sz)), (mh, .inl (cI, 224, .inl v22)), (me, .inl (cI, 32, .inl tb))]) rfl (q0 := 0) rfl cv_M_132_M rfl rfl ⟨Nat.le_of_ble_eq_true rfl, Nat.le_of_ble_eq_true rfl⟩ hf0 rfl (Nat.le_of_ble_eq_true rfl) zd_M_readOne_87 rfl ?_
        refine G_goto F zd_M_readOne_90 (tgt := 65) rfl ?_
        exact G_lv [0, 1] rfl (ih _ _ _ _ _ _ _ _ h hx)
set_option maxHeartbeats 4000000 in
set_option maxRecDepth 100000 in
theorem zk_M_readOne (l : Launch) (D : va_G) (cB cI cJ : ClassId) (ma : Nat) (mb : Nat) (mz : Nat) (mh : Nat) (me : Nat) (th : Int32) (mf : Nat → Int32) (sz : Nat → Int32) (mc : Int32) (cp : Int32) (hi : Nat → Int32) (bg : Int32) (en : Int32) (tb : Nat → Int32) (ou : Int32) (mp : Int32) (fa : Int32) (en' : Int32) (mp' : Int32) (fa' : Int32) (hi' : Nat → Int32) (h : zf_M_readOne mf sz hi bg en mp fa = some (en', mp', fa', hi')) : CoV l zy_M_readOne zw_M_readOne { frames := 4, cells := 0, slots := 0, locals := 92 } D cB cI cJ [.ref ma] [(ma, .inr (8, [.int th, .ref mb, .ref mz, .int mc, .int cp, .ref mh, .int bg, .int en, .ref me, .int ou, .int mp, .int fa])), (mb, .inl (cI, 600, .inl mf)), (mz, .inl (cI, 3, .inl sz)), (mh, .inl (cI, 224, .inl hi)), (me, .inl (cI, 32, .inl tb))] [(ma, .inr (8, [.int th, .ref mb, .ref mz, .int mc, .int cp, .ref mh, .int bg, .int en', .ref me, .int ou, .int mp', .int fa'])), (mb, .inl (cI, 600, .inl mf)), (mz, .inl (cI, 3, .inl sz)), (mh, .inl (cI, 224, .inl hi')), (me, .inl (cI, 32, .inl tb))] := by
  unfold zf_M_readOne at h
  refine CoV.ofG (cc := zc_M_readOne) (maxL := 3) (own := RX10) (by decide) rfl rfl rfl trivial (Nat.le_of_ble_eq_true rfl) (L0 := [(0, .ref ma)]) rfl (fun k F E => ?_)
  refine G_aload_n F zd_M_readOne_0 rfl (j := 0) rfl ?_
  obtain ⟨v1, v2, v3, hc1, h⟩ := bc3_s h
  refine G_calliV F (zk_M_next l D cB cI cJ ma mb mz mh me th mf sz mc cp hi bg en tb ou mp fa v1 v2 v3 hc1) (rest := []) [0, 1, 2, 3, 4] rfl rfl rfl (ws' := [(ma, .inr (8, [.int th, .ref mb, .ref mz, .int mc, .int cp, .ref mh, .int bg, .int en, .ref me, .int ou, .int v2, .int v3])), (mb, .inl (cI, 600, .inl mf)), (mz, .inl (cI, 3, .inl sz)), (mh, .inl (cI, 224, .inl hi)), (me, .inl (cI, 32, .inl tb))]) rfl (q0 := 0) rfl cv_M_116_M rfl rfl ⟨Nat.le_of_ble_eq_true rfl, Nat.le_of_ble_eq_true rfl⟩ hf0 rfl (Nat.le_of_ble_eq_true rfl) zd_M_readOne_1 rfl ?_
  refine G_istore_n F zd_M_readOne_4 rfl (by decide) (L' := [(1, .int v1), (0, .ref ma)]) rfl ?_
  refine G_iload_n F zd_M_readOne_5 rfl (j := 0) rfl ?_
  refine G_bipush (v := (127 : Int32)) F zd_M_readOne_6 (by decide) ?_
  obtain ⟨u4, u5, u6, hj43, h⟩ := bc3_s h
  have X43 : G D 3 k 0 0 43 [(0, .ref ma), (1, .int u4)] [] [(ma, .inr (8, [.int th, .ref mb, .ref mz, .int mc, .int cp, .ref mh, .int bg, .int en, .ref me, .int ou, .int u5, .int u6])), (mb, .inl (cI, 600, .inl mf)), (mz, .inl (cI, 3, .inl sz)), (mh, .inl (cI, 224, .inl hi)), (me, .inl (cI, 32, .inl tb))] := by
    refine G_aload_n F zd_M_readOne_43 rfl (j := 0) rfl ?_
    refine G_iload_n F zd_M_readOne_44 rfl (j := 1) rfl ?_
    refine G_sipush (v := (160 : Int32)) F zd_M_readOne_45 (by decide) ?_
    obtain ⟨u13, hj56, h⟩ := bc1_s h
    have X56 : G D 3 k 0 0 56 [(0, .ref ma), (1, .int u4)] [.int u13, .ref ma] [(ma, .inr (8, [.int th, .ref mb, .ref mz, .int mc, .int cp, .ref mh, .int bg, .int en, .ref me, .int ou, .int u5, .int u6])), (mb, .inl (cI, 600, .inl mf)), (mz, .inl (cI, 3, .inl sz)), (mh, .inl (cI, 224, .inl hi)), (me, .inl (cI, 32, .inl tb))] := by
      refine G_aload_n F zd_M_readOne_56 rfl (j := 0) rfl ?_
      refine G_get F fa_M_109_M (q := 0) zd_M_readOne_57 rfl rfl ?_
      refine G_iconst (v := (1 : Int32)) F zd_M_readOne_60 (by decide) ?_
      refine G_isub F zd_M_readOne_61 ?_
      obtain ⟨v14, hc62, h⟩ := bc1_s h
      refine G_callvV F (zk_M_need l D cB cI cJ ma mb mz mh me th mf sz mc cp hi bg en tb ou u5 u6 u13 (u5 - (1 : Int32)) v14 hc62) (rest := []) [0, 1, 2, 3, 4] rfl rfl rfl (ws' := [(ma, .inr (8, [.int th, .ref mb, .ref mz, .int mc, .int cp, .ref mh, .int bg, .int en, .ref me, .int ou, .int u5, .int v14])), (mb, .inl (cI, 600, .inl mf)), (mz, .inl (cI, 3, .inl sz)), (mh, .inl (cI, 224, .inl hi)), (me, .inl (cI, 32, .inl tb))]) rfl (q0 := 0) rfl cv_M_112_M rfl rfl ⟨Nat.le_of_ble_eq_true rfl, Nat.le_of_ble_eq_true rfl⟩ hf0 rfl (Nat.le_of_ble_eq_true rfl) zd_M_readOne_62 rfl ?_
      obtain ⟨x23, x24, x25, x26, hl65, h⟩ := bc4_s h
      refine G_lv [0, 1] rfl (zl_M_readOne_65 F th mf sz mc cp bg tb ou ma mb mz mh me u4 1000 en u5 v14 hi x23 x24 x25 x26 hl65 ?_)
      refine G_aload_n F zd_M_readOne_93 rfl (j := 0) rfl ?_
      refine G_aload_n F zd_M_readOne_94 rfl (j := 0) rfl ?_
      obtain ⟨v27, hc95, h⟩ := bc1_s h
      refine G_calliV0 F (zk_M_made l D cB cI cJ ma mb mz mh me th mf sz mc cp x26 bg x23 tb ou x24 x25 v27 hc95) (rest := [.ref ma]) [0, 1, 2, 3, 4] rfl rfl (q0 := 0) rfl cv_M_123_M rfl rfl ⟨Nat.le_of_ble_eq_true rfl, Nat.le_of_ble_eq_true rfl⟩ hf0 rfl (Nat.le_of_ble_eq_true rfl) zd_M_readOne_95 rfl ?_
      refine G_iload_n F zd_M_readOne_98 rfl (j := 1) rfl ?_
      obtain ⟨u28, hj107, h⟩ := bc1_s h
      have X107 : G D 3 k 0 0 107 [(0, .ref ma), (1, .int u4)] [.int u28, .ref ma] [(ma, .inr (8, [.int th, .ref mb, .ref mz, .int mc, .int cp, .ref mh, .int bg, .int x23, .ref me, .int ou, .int x24, .int x25])), (mb, .inl (cI, 600, .inl mf)), (mz, .inl (cI, 3, .inl sz)), (mh, .inl (cI, 224, .inl x26)), (me, .inl (cI, 32, .inl tb))] := by
        refine G_aload_n F zd_M_readOne_107 rfl (j := 0) rfl ?_
        refine G_get F fa_M_13_M (q := 0) zd_M_readOne_108 rfl rfl ?_
        refine G_iconst (v := (1 : Int32)) F zd_M_readOne_111 (by decide) ?_
        obtain ⟨h0, h⟩ := gd_s h
        refine G_iaload F zd_M_readOne_112 (q := 2) rfl h0 ?_
        obtain ⟨v29, hc113, h⟩ := bc1_s h
        refine G_callvV F (zk_M_need l D cB cI cJ ma mb mz mh me th mf sz mc cp x26 bg x23 tb ou x24 x25 u28 (sz (Int32.toNatClampNeg (1 : Int32))) v29 hc113) (rest := []) [0, 1, 2, 3, 4] rfl rfl rfl (ws' := [(ma, .inr (8, [.int th, .ref mb, .ref mz, .int mc, .int cp, .ref mh, .int bg, .int x23, .ref me, .int ou, .int x24, .int v29])), (mb, .inl (cI, 600, .inl mf)), (mz, .inl (cI, 3, .inl sz)), (mh, .inl (cI, 224, .inl x26)), (me, .inl (cI, 32, .inl tb))]) rfl (q0 := 0) rfl cv_M_112_M rfl rfl ⟨Nat.le_of_ble_eq_true rfl, Nat.le_of_ble_eq_true rfl⟩ hf0 rfl (Nat.le_of_ble_eq_true rfl) zd_M_readOne_113 rfl ?_
        obtain ⟨q1, q2, q3, q4⟩ := inj4 h
        subst q1
        subst q2
        subst q3
        subst q4
        exact E 116 _ zd_M_readOne_116
      have h := hj107
      refine G_icmp_ne F zd_M_readOne_99 (tgt := 106) rfl (fun h0 => ?_) (fun h0 => ?_)
      · have h := iN h h0
        refine G_iconst (v := (0 : Int32)) F zd_M_readOne_106 (by decide) ?_
        have q1 := Option.some.inj h
        subst q1
        exact G_lv [0, 1] rfl X107
      · have h := iP h h0
        refine G_iconst (v := (1 : Int32)) F zd_M_readOne_102 (by decide) ?_
        refine G_goto F zd_M_readOne_103 (tgt := 107) rfl ?_
        have q1 := Option.some.inj h
        subst q1
        exact G_lv [0, 1] rfl X107
    have h := hj56
    refine G_icmp_gt F zd_M_readOne_48 (tgt := 55) rfl (fun h0 => ?_) (fun h0 => ?_)
    · have h := iP h h0
      refine G_iconst (v := (0 : Int32)) F zd_M_readOne_55 (by decide) ?_
      have q1 := Option.some.inj h
      subst q1
      exact G_lv [0, 1] rfl X56
    · have h := iN h h0
      refine G_iconst (v := (1 : Int32)) F zd_M_readOne_51 (by decide) ?_
      refine G_goto F zd_M_readOne_52 (tgt := 56) rfl ?_
      have q1 := Option.some.inj h
      subst q1
      exact G_lv [0, 1] rfl X56
  have h := hj43
  refine G_icmp_le F zd_M_readOne_8 (tgt := 43) rfl (fun h0 => ?_) (fun h0 => ?_)
  · have h := iP h h0
    obtain ⟨q1, q2, q3⟩ := inj3 h
    subst q1
    subst q2
    subst q3
    exact G_lv [1, 0] rfl X43
  · have h := iN h h0
    refine G_aload_n F zd_M_readOne_11 rfl (j := 1) rfl ?_
    obtain ⟨v7, v8, v9, hc12, h⟩ := bc3_s h
    refine G_calliV F (zk_M_next l D cB cI cJ ma mb mz mh me th mf sz mc cp hi bg en tb ou v2 v3 v7 v8 v9 hc12) (rest := []) [0, 1, 2, 3, 4] rfl rfl rfl (ws' := [(ma, .inr (8, [.int th, .ref mb, .ref mz, .int mc, .int cp, .ref mh, .int bg, .int en, .ref me, .int ou, .int v8, .int v9])), (mb, .inl (cI, 600, .inl mf)), (mz, .inl (cI, 3, .inl sz)), (mh, .inl (cI, 224, .inl hi)), (me, .inl (cI, 32, .inl tb))]) rfl (q0 := 0) rfl cv_M_116_M rfl rfl ⟨Nat.le_of_ble_eq_true rfl, Nat.le_of_ble_eq_true rfl⟩ hf0 rfl (Nat.le_of_ble_eq_true rfl) zd_M_readOne_12 rfl ?_
    refine G_istore_n F zd_M_readOne_15 rfl (by decide) (L' := [(2, .int v7), (1, .int v1), (0, .ref ma)]) rfl ?_
    refine G_aload_n F zd_M_readOne_16 rfl (j := 2) rfl ?_
    refine G_iload_n F zd_M_readOne_17 rfl (j := 0) rfl ?_
    refine G_sipush (v := (128 : Int32)) F zd_M_readOne_18 (by decide) ?_
    obtain ⟨u10, hj29, h⟩ := bc1_s h
    have X29 : G D 3 k 0 0 29 [(0, .ref ma), (1, .int v1), (2, .int v7)] [.int u10, .ref ma] [(ma, .inr (8, [.int th, .ref mb, .ref mz, .int mc, .int cp, .ref mh, .int bg, .int en, .ref me, .int ou, .int v8, .int v9])), (mb, .inl (cI, 600, .inl mf)), (mz, .inl (cI, 3, .inl sz)), (mh, .inl (cI, 224, .inl hi)), (me, .inl (cI, 32, .inl tb))] := by
      refine G_iconst (v := (1 : Int32)) F zd_M_readOne_29 (by decide) ?_
      obtain ⟨v11, hc30, h⟩ := bc1_s h
      refine G_callvV F (zk_M_need l D cB cI cJ ma mb mz mh me th mf sz mc cp hi bg en tb ou v8 v9 u10 (1 : Int32) v11 hc30) (rest := []) [0, 1, 2, 3, 4] rfl rfl rfl (ws' := [(ma, .inr (8, [.int th, .ref mb, .ref mz, .int mc, .int cp, .ref mh, .int bg, .int en, .ref me, .int ou, .int v8, .int v11])), (mb, .inl (cI, 600, .inl mf)), (mz, .inl (cI, 3, .inl sz)), (mh, .inl (cI, 224, .inl hi)), (me, .inl (cI, 32, .inl tb))]) rfl (q0 := 0) rfl cv_M_112_M rfl rfl ⟨Nat.le_of_ble_eq_true rfl, Nat.le_of_ble_eq_true rfl⟩ hf0 rfl (Nat.le_of_ble_eq_true rfl) zd_M_readOne_30 rfl ?_
      refine G_iload_n F zd_M_readOne_33 rfl (j := 1) rfl ?_
      refine G_bipush (v := (127 : Int32)) F zd_M_readOne_34 (by decide) ?_
      refine G_iand F zd_M_readOne_36 ?_
      refine G_iload_n F zd_M_readOne_37 rfl (j := 2) rfl ?_
      refine G_bipush (v := (7 : Int32)) F zd_M_readOne_38 (by decide) ?_
      refine G_ishl F zd_M_readOne_40 ?_
      refine G_ior F zd_M_readOne_41 ?_
      obtain ⟨v12, ev12, h⟩ := bnd_s h
      refine G_topi ev12 ?_
      refine G_istore_n F zd_M_readOne_42 rfl (by decide) (L' := [(1, .int v12), (0, .ref ma), (2, .int v7)]) rfl ?_
      obtain ⟨q1, q2, q3⟩ := inj3 h
      subst q1
      subst q2
      subst q3
      exact G_lv [1, 0] rfl X43
    have h := hj29
    refine G_icmp_ge F zd_M_readOne_21 (tgt := 28) rfl (fun h0 => ?_) (fun h0 => ?_)
    · have h := iP h h0
      refine G_iconst (v := (0 : Int32)) F zd_M_readOne_28 (by decide) ?_
      have q1 := Option.some.inj h
      subst q1
      exact G_lv [2, 1, 0] rfl X29
    · have h := iN h h0
      refine G_iconst (v := (1 : Int32)) F zd_M_readOne_24 (by decide) ?_
      refine G_goto F zd_M_readOne_25 (tgt := 29) rfl ?_
      have q1 := Option.some.inj h
      subst q1
      exact G_lv [2, 1, 0] rfl X29

set_option maxHeartbeats 4000000 in
set_option maxRecDepth 100000 in
theorem zl_M_unpack_79 {k : GC} {l : Launch} {D : va_G} {cB cI cJ : ClassId} (F : GF k l { frames := 5, cells := 0, slots := 0, locals := 114 } zc_M_unpack 3 RX10 D cB cI cJ) (mc : Int32) (cp : Int32) (tb : Nat → Int32) (ou : Int32) (i1 : Int32) (ma : Nat) (mb : Nat) (mz : Nat) (mh : Nat) (me : Nat) (v3 : Int32) (v4 : Int32) (u7 : Int32) (u8 : Int32) (u9 : Int32) (u10 : Nat → Int32) (v20 : Nat → Int32) : ∀ (n : Nat) (v21 : Int32) (v22 : Nat → Int32) (w21 : Int32) (w22 : Nat → Int32), zf_M_unpack_L79 v4 u10 v20 n v21 v22 = some (w21, w22) → G D 3 k 0 0 112 [(0, .ref ma), (1, .int i1), (2, .int w21)] [] [(ma, .inr (8, [.int v3, .ref mb, .ref mz, .int mc, .int cp, .ref mh, .int v4, .int u7, .ref me, .int ou, .int u8, .int u9])), (mb, .inl (cI, 600, .inl w22)), (mz, .inl (cI, 3, .inl v20)), (mh, .inl (cI, 224, .inl u10)), (me, .inl (cI, 32, .inl tb))] → G D 3 k 0 0 79 [(0, .ref ma), (1, .int i1), (2, .int v21)] [] [(ma, .inr (8, [.int v3, .ref mb, .ref mz, .int mc, .int cp, .ref mh, .int v4, .int u7, .ref me, .int ou, .int u8, .int u9])), (mb, .inl (cI, 600, .inl v22)), (mz, .inl (cI, 3, .inl v20)), (mh, .inl (cI, 224, .inl u10)), (me, .inl (cI, 32, .inl tb))] := by
  intro n
  induction n with
  | zero =>
    intro v21 v22 w21 w22 h
    rw [zf_M_unpack_L79_0] at h
    cases h
  | succ n ih =>
    intro v21 v22 w21 w22 h hx
    have h := (zf_M_unpack_L79_s v4 u10 v20 n v21 v22).symm.trans h
    refine G_iload_n F zd_M_unpack_79 rfl (j := 2) rfl ?_
    refine G_aload_n F zd_M_unpack_80 rfl (j := 0) rfl ?_
    refine G_get F fa_M_13_M (q := 0) zd_M_unpack_81 rfl rfl ?_
    refine G_iconst (v := (0 : Int32)) F zd_M_unpack_84 (by decide) ?_
    obtain ⟨h0, h⟩ := gd_s h
    refine G_iaload F zd_M_unpack_85 (q := 2) rfl h0 ?_
    refine G_icmp_ge F zd_M_unpack_86 (tgt := 112) rfl (fun h0 => ?_) (fun h0 => ?_)
    · have h := iP h h0
      obtain ⟨q1, q2⟩ := inj2 h
      subst q1
      subst q2
      exact G_lv [0, 1, 2] rfl hx
    · have h := iN h h0
      refine G_aload_n F zd_M_unpack_89 rfl (j := 0) rfl ?_
      refine G_get F fa_M_7_M (q := 0) zd_M_unpack_90 rfl rfl ?_
      refine G_iload_n F zd_M_unpack_93 rfl (j := 2) rfl ?_
      refine G_aload_n F zd_M_unpack_94 rfl (j := 0) rfl ?_
      refine G_get F fa_M_16_M (q := 0) zd_M_unpack_95 rfl rfl ?_
      refine G_aload_n F zd_M_unpack_98 rfl (j := 0) rfl ?_
      refine G_get F fa_M_54_M (q := 0) zd_M_unpack_99 rfl rfl ?_
      refine G_iload_n F zd_M_unpack_102 rfl (j := 2) rfl ?_
      refine G_iadd F zd_M_unpack_103 ?_
      obtain ⟨h0, h⟩ := gd_s h
      refine G_iaload F zd_M_unpack_104 (q := 3) rfl h0 ?_
      obtain ⟨h0, h⟩ := gd_s h
      obtain ⟨v23, ev23, h⟩ := bnd_s h
      refine G_iastore F zd_M_unpack_105 (q := 1) rfl h0 ev23 (ws' := [(ma, .inr (8, [.int v3, .ref mb, .ref mz, .int mc, .int cp, .ref mh, .int v4, .int u7, .ref me, .int ou, .int u8, .int u9])), (mb, .inl (cI, 600, .inl v23)), (mz, .inl (cI, 3, .inl v20)), (mh, .inl (cI, 224, .inl u10)), (me, .inl (cI, 32, .inl tb))]) rfl ?_
      obtain ⟨v24, ev24, h⟩ := bnd_s h
      refine G_iinc F zd_M_unpack_106 (j := 2) rfl (w := (1 : Int32)) (by decide) ev24 (by decide) (L' := [(2, .int v24), (0, .ref ma), (1, .int i1)]) rfl ?_
      refine G_goto F zd_M_unpack_109 (tgt := 79) rfl ?_
      exact G_lv [1, 2, 0] rfl (ih _ _ _ _ h hx)
set_option maxHeartbeats 4000000 in
set_option maxRecDepth 100000 in
theorem zk_M_unpack (l : Launch) (D : va_G) (cB cI cJ : ClassId) (ma : Nat) (mb : Nat) (mz : Nat) (mh : Nat) (me : Nat) (th : Int32) (mf : Nat → Int32) (sz : Nat → Int32) (mc : Int32) (cp : Int32) (hi : Nat → Int32) (bg : Int32) (en : Int32) (tb : Nat → Int32) (ou : Int32) (mp : Int32) (fa : Int32) (i1 : Int32) (r : Int32) (th' : Int32) (bg' : Int32) (en' : Int32) (mp' : Int32) (fa' : Int32) (mf' : Nat → Int32) (sz' : Nat → Int32) (hi' : Nat → Int32) (h : zf_M_unpack mf sz hi bg en mp fa i1 = some (r, th', bg', en', mp', fa', mf', sz', hi')) : CoI l zy_M_unpack zw_M_unpack { frames := 5, cells := 0, slots := 0, locals := 114 } D cB cI cJ [.ref ma, .int i1] [(ma, .inr (8, [.int th, .ref mb, .ref mz, .int mc, .int cp, .ref mh, .int bg, .int en, .ref me, .int ou, .int mp, .int fa])), (mb, .inl (cI, 600, .inl mf)), (mz, .inl (cI, 3, .inl sz)), (mh, .inl (cI, 224, .inl hi)), (me, .inl (cI, 32, .inl tb))] r [(ma, .inr (8, [.int th', .ref mb, .ref mz, .int mc, .int cp, .ref mh, .int bg', .int en', .ref me, .int ou, .int mp', .int fa'])), (mb, .inl (cI, 600, .inl mf')), (mz, .inl (cI, 3, .inl sz')), (mh, .inl (cI, 224, .inl hi')), (me, .inl (cI, 32, .inl tb))] := by
  unfold zf_M_unpack at h
  refine CoI.ofG (cc := zc_M_unpack) (maxL := 3) (own := RX10) (by decide) rfl rfl rfl trivial (Nat.le_of_ble_eq_true rfl) (L0 := [(0, .ref ma), (1, .int i1)]) rfl (fun k F E => ?_)
  refine G_aload_n F zd_M_unpack_0 rfl (j := 0) rfl ?_
  refine G_iload_n F zd_M_unpack_1 rfl (j := 1) rfl ?_
  obtain ⟨u1, hj15, h⟩ := bc1_s h
  have X15 : G D 3 k 0 0 15 [(0, .ref ma), (1, .int i1)] [.int u1, .ref ma] [(ma, .inr (8, [.int th, .ref mb, .ref mz, .int mc, .int cp, .ref mh, .int bg, .int en, .ref me, .int ou, .int mp, .int fa])), (mb, .inl (cI, 600, .inl mf)), (mz, .inl (cI, 3, .inl sz)), (mh, .inl (cI, 224, .inl hi)), (me, .inl (cI, 32, .inl tb))] := by
    refine G_iconst (v := (0 : Int32)) F zd_M_unpack_15 (by decide) ?_
    obtain ⟨v2, v3, hc16, h⟩ := bc2_s h
    refine G_calliV F (zk_M_fails l D cB cI cJ ma mb mz mh me th mf sz mc cp hi bg en tb ou mp fa u1 (0 : Int32) v2 v3 hc16) (rest := []) [0, 1, 2, 3, 4] rfl rfl rfl (ws' := [(ma, .inr (8, [.int v3, .ref mb, .ref mz, .int mc, .int cp, .ref mh, .int bg, .int en, .ref me, .int ou, .int mp, .int fa])), (mb, .inl (cI, 600, .inl mf)), (mz, .inl (cI, 3, .inl sz)), (mh, .inl (cI, 224, .inl hi)), (me, .inl (cI, 32, .inl tb))]) rfl (q0 := 0) rfl cv_M_34_M rfl rfl ⟨Nat.le_of_ble_eq_true rfl, Nat.le_of_ble_eq_true rfl⟩ hf0 rfl (Nat.le_of_ble_eq_true rfl) zd_M_unpack_16 rfl ?_
    refine G_if_eq F zd_M_unpack_19 (tgt := 24) rfl (fun h0 => ?_) (fun h0 => ?_)
    · have h := iP h h0
      refine G_aload_n F zd_M_unpack_24 rfl (j := 0) rfl ?_
      obtain ⟨v4, v5, v6, hc25, h⟩ := bc3_s h
      refine G_callvV F (zk_M_remembers l D cB cI cJ ma mb mz mh me v3 mf sz mc cp hi bg en tb ou mp fa v4 v5 v6 hc25) (rest := []) [0, 1, 2, 3, 4] rfl rfl rfl (ws' := [(ma, .inr (8, [.int v3, .ref mb, .ref mz, .int mc, .int cp, .ref mh, .int v4, .int v5, .ref me, .int ou, .int mp, .int fa])), (mb, .inl (cI, 600, .inl mf)), (mz, .inl (cI, 3, .inl sz)), (mh, .inl (cI, 224, .inl v6)), (me, .inl (cI, 32, .inl tb))]) rfl (q0 := 0) rfl cv_M_100_M rfl rfl ⟨Nat.le_of_ble_eq_true rfl, Nat.le_of_ble_eq_true rfl⟩ hf0 rfl (Nat.le_of_ble_eq_true rfl) zd_M_unpack_25 rfl ?_
      refine G_aload_n F zd_M_unpack_28 rfl (j := 0) rfl ?_
      refine G_iconst (v := (0 : Int32)) F zd_M_unpack_29 (by decide) ?_
      refine G_put F fp_M_109_M (q := 0) zd_M_unpack_30 rfl (Nat.le_of_ble_eq_true rfl) (ws' := [(ma, .inr (8, [.int v3, .ref mb, .ref mz, .int mc, .int cp, .ref mh, .int v4, .int v5, .ref me, .int ou, .int (0 : Int32), .int fa])), (mb, .inl (cI, 600, .inl mf)), (mz, .inl (cI, 3, .inl sz)), (mh, .inl (cI, 224, .inl v6)), (me, .inl (cI, 32, .inl tb))]) rfl ?_
      refine G_aload_n F zd_M_unpack_33 rfl (j := 0) rfl ?_
      refine G_iconst (v := (-1 : Int32)) F zd_M_unpack_34 (by decide) ?_
      refine G_put F fp_M_106_M (q := 0) zd_M_unpack_35 rfl (Nat.le_of_ble_eq_true rfl) (ws' := [(ma, .inr (8, [.int v3, .ref mb, .ref mz, .int mc, .int cp, .ref mh, .int v4, .int v5, .ref me, .int ou, .int (0 : Int32), .int (-1 : Int32)])), (mb, .inl (cI, 600, .inl mf)), (mz, .inl (cI, 3, .inl sz)), (mh, .inl (cI, 224, .inl v6)), (me, .inl (cI, 32, .inl tb))]) rfl ?_
      refine G_iload_n F zd_M_unpack_38 rfl (j := 1) rfl ?_
      obtain ⟨u7, u8, u9, u10, hj53, h⟩ := bc4_s h
      have X53 : G D 3 k 0 0 53 [(0, .ref ma), (1, .int i1)] [] [(ma, .inr (8, [.int v3, .ref mb, .ref mz, .int mc, .int cp, .ref mh, .int v4, .int u7, .ref me, .int ou, .int u8, .int u9])), (mb, .inl (cI, 600, .inl mf)), (mz, .inl (cI, 3, .inl sz)), (mh, .inl (cI, 224, .inl u10)), (me, .inl (cI, 32, .inl tb))] := by
        refine G_aload_n F zd_M_unpack_53 rfl (j := 0) rfl ?_
        refine G_get F fa_M_106_M (q := 0) zd_M_unpack_54 rfl rfl ?_
        refine G_if_lt F zd_M_unpack_57 (tgt := 67) rfl (fun h0 => ?_) (fun h0 => ?_)
        · have h := iP h h0
          refine G_aload_n F zd_M_unpack_67 rfl (j := 0) rfl ?_
          refine G_get F fa_M_13_M (q := 0) zd_M_unpack_68 rfl rfl ?_
          refine G_iconst (v := (0 : Int32)) F zd_M_unpack_71 (by decide) ?_
          refine G_aload_n F zd_M_unpack_72 rfl (j := 0) rfl ?_
          obtain ⟨v19, hc73, h⟩ := bc1_s h
          refine G_calliV0 F (zk_M_made l D cB cI cJ ma mb mz mh me v3 mf sz mc cp u10 v4 u7 tb ou u8 u9 v19 hc73) (rest := [.int (0 : Int32), .ref mz]) [0, 1, 2, 3, 4] rfl rfl (q0 := 0) rfl cv_M_123_M rfl rfl ⟨Nat.le_of_ble_eq_true rfl, Nat.le_of_ble_eq_true rfl⟩ hf0 rfl (Nat.le_of_ble_eq_true rfl) zd_M_unpack_73 rfl ?_
          obtain ⟨h0, h⟩ := gd_s h
          obtain ⟨v20, ev20, h⟩ := bnd_s h
          refine G_iastore F zd_M_unpack_76 (q := 2) rfl h0 ev20 (ws' := [(ma, .inr (8, [.int v3, .ref mb, .ref mz, .int mc, .int cp, .ref mh, .int v4, .int u7, .ref me, .int ou, .int u8, .int u9])), (mb, .inl (cI, 600, .inl mf)), (mz, .inl (cI, 3, .inl v20)), (mh, .inl (cI, 224, .inl u10)), (me, .inl (cI, 32, .inl tb))]) rfl ?_
          refine G_iconst (v := (0 : Int32)) F zd_M_unpack_77 (by decide) ?_
          refine G_istore_n F zd_M_unpack_78 rfl (by decide) (L' := [(2, .int (0 : Int32)), (0, .ref ma), (1, .int i1)]) rfl ?_
          obtain ⟨x25, x26, hl79, h⟩ := bc2_s h
          refine G_lv [1, 2, 0] rfl (zl_M_unpack_79 F mc cp tb ou i1 ma mb mz mh me v3 v4 u7 u8 u9 u10 v20 1000 (0 : Int32) mf x25 x26 hl79 ?_)
          refine G_aload_n F zd_M_unpack_112 rfl (j := 0) rfl ?_
          refine G_get F fa_M_13_M (q := 0) zd_M_unpack_113 rfl rfl ?_
          refine G_iconst (v := (0 : Int32)) F zd_M_unpack_116 (by decide) ?_
          obtain ⟨h0, h⟩ := gd_s h
          refine G_iaload F zd_M_unpack_117 (q := 2) rfl h0 ?_
          obtain ⟨q1, q2, q3, q4, q5, q6, q7, q8, q9⟩ := inj9 h
          subst q1
          subst q2
          subst q3
          subst q4
          subst q5
          subst q6
          subst q7
          subst q8
          subst q9
          exact E 118 _ zd_M_unpack_118
        · have h := iN h h0
          refine G_iconst (v := (-1 : Int32)) F zd_M_unpack_60 (by decide) ?_
          refine G_aload_n F zd_M_unpack_61 rfl (j := 0) rfl ?_
          refine G_get F fa_M_106_M (q := 0) zd_M_unpack_62 rfl rfl ?_
          refine G_isub F zd_M_unpack_65 ?_
          obtain ⟨q1, q2, q3, q4, q5, q6, q7, q8, q9⟩ := inj9 h
          subst q1
          subst q2
          subst q3
          subst q4
          subst q5
          subst q6
          subst q7
          subst q8
          subst q9
          exact E 66 _ zd_M_unpack_66
      have h := hj53
      refine G_if_ne F zd_M_unpack_39 (tgt := 49) rfl (fun h0 => ?_) (fun h0 => ?_)
      · have h := iN h h0
        refine G_aload_n F zd_M_unpack_49 rfl (j := 0) rfl ?_
        obtain ⟨v11, v12, v13, v14, hc50, h⟩ := bc4_s h
        refine G_callvV F (zk_M_readOne l D cB cI cJ ma mb mz mh me v3 mf sz mc cp v6 v4 v5 tb ou (0 : Int32) (-1 : Int32) v11 v12 v13 v14 hc50) (rest := []) [0, 1, 2, 3, 4] rfl rfl rfl (ws' := [(ma, .inr (8, [.int v3, .ref mb, .ref mz, .int mc, .int cp, .ref mh, .int v4, .int v11, .ref me, .int ou, .int v12, .int v13])), (mb, .inl (cI, 600, .inl mf)), (mz, .inl (cI, 3, .inl sz)), (mh, .inl (cI, 224, .inl v14)), (me, .inl (cI, 32, .inl tb))]) rfl (q0 := 0) rfl cv_M_138_M rfl rfl ⟨Nat.le_of_ble_eq_true rfl, Nat.le_of_ble_eq_true rfl⟩ hf0 rfl (Nat.le_of_ble_eq_true rfl) zd_M_unpack_50 rfl ?_
        obtain ⟨q1, q2, q3, q4⟩ := inj4 h
        subst q1
        subst q2
        subst q3
        subst q4
        exact G_lv [0, 1] rfl X53
      · have h := iP h h0
        refine G_aload_n F zd_M_unpack_42 rfl (j := 0) rfl ?_
        obtain ⟨v15, v16, v17, v18, hc43, h⟩ := bc4_s h
        refine G_callvV F (zk_M_readZero l D cB cI cJ ma mb mz mh me v3 mf sz mc cp v6 v4 v5 tb ou (0 : Int32) (-1 : Int32) v15 v16 v17 v18 hc43) (rest := []) [0, 1, 2, 3, 4] rfl rfl rfl (ws' := [(ma, .inr (8, [.int v3, .ref mb, .ref mz, .int mc, .int cp, .ref mh, .int v4, .int v15, .ref me, .int ou, .int v16, .int v17])), (mb, .inl (cI, 600, .inl mf)), (mz, .inl (cI, 3, .inl sz)), (mh, .inl (cI, 224, .inl v18)), (me, .inl (cI, 32, .inl tb))]) rfl (q0 := 0) rfl cv_M_135_M rfl rfl ⟨Nat.le_of_ble_eq_true rfl, Nat.le_of_ble_eq_true rfl⟩ hf0 rfl (Nat.le_of_ble_eq_true rfl) zd_M_unpack_43 rfl ?_
        refine G_goto F zd_M_unpack_46 (tgt := 53) rfl ?_
        obtain ⟨q1, q2, q3, q4⟩ := inj4 h
        subst q1
        subst q2
        subst q3
        subst q4
        exact G_lv [0, 1] rfl X53
    · have h := iN h h0
      refine G_iconst (v := (0 : Int32)) F zd_M_unpack_22 (by decide) ?_
      obtain ⟨q1, q2, q3, q4, q5, q6, q7, q8, q9⟩ := inj9 h
      subst q1
      subst q2
      subst q3
      subst q4
      subst q5
      subst q6
      subst q7
      subst q8
      subst q9
      exact E 23 _ zd_M_unpack_23
  have h := hj15
  refine G_if_eq F zd_M_unpack_2 (tgt := 14) rfl (fun h0 => ?_) (fun h0 => ?_)
  · have h := iP h h0
    refine G_iconst (v := (0 : Int32)) F zd_M_unpack_14 (by decide) ?_
    have q1 := Option.some.inj h
    subst q1
    exact G_lv [0, 1] rfl X15
  · have h := iN h h0
    refine G_iload_n F zd_M_unpack_5 rfl (j := 1) rfl ?_
    refine G_iconst (v := (1 : Int32)) F zd_M_unpack_6 (by decide) ?_
    refine G_icmp_eq F zd_M_unpack_7 (tgt := 14) rfl (fun h0 => ?_) (fun h0 => ?_)
    · have h := iP h h0
      refine G_iconst (v := (0 : Int32)) F zd_M_unpack_14 (by decide) ?_
      have q1 := Option.some.inj h
      subst q1
      exact G_lv [0, 1] rfl X15
    · have h := iN h h0
      refine G_iconst (v := (1 : Int32)) F zd_M_unpack_10 (by decide) ?_
      refine G_goto F zd_M_unpack_11 (tgt := 15) rfl ?_
      have q1 := Option.some.inj h
      subst q1
      exact G_lv [0, 1] rfl X15

set_option maxHeartbeats 4000000 in
set_option maxRecDepth 100000 in
theorem zl_M_crc_54 {k : GC} {l : Launch} {D : va_G} {cB cI cJ : ClassId} (F : GF k l { frames := 1, cells := 0, slots := 0, locals := 22 } zc_M_crc 6 RX10 D cB cI cJ) (mf : Nat → Int32) (sz : Nat → Int32) (mc : Int32) (cp : Int32) (hi : Nat → Int32) (bg : Int32) (en : Int32) (tb : Nat → Int32) (ou : Int32) (mp : Int32) (fa : Int32) (i1 : Int32) (ma : Nat) (mb : Nat) (mz : Nat) (mh : Nat) (me : Nat) (v4 : Int32) (v6 : Int32) : ∀ (n : Nat) (v8 : Int32) (v9 : Int32) (w8 : Int32) (w9 : Int32), zf_M_crc_L54  n v8 v9 = some (w8, w9) → G D 6 k 0 0 95 [(0, .ref ma), (1, .int i1), (2, .int w8), (3, .int v6), (4, .int w9)] [] [(ma, .inr (8, [.int v4, .ref mb, .ref mz, .int mc, .int cp, .ref mh, .int bg, .int en, .ref me, .int ou, .int mp, .int fa])), (mb, .inl (cI, 600, .inl mf)), (mz, .inl (cI, 3, .inl sz)), (mh, .inl (cI, 224, .inl hi)), (me, .inl (cI, 32, .inl tb))] → G D 6 k 0 0 54 [(0, .ref ma), (1, .int i1), (2, .int v8), (3, .int v6), (4, .int v9)] [] [(ma, .inr (8, [.int v4, .ref mb, .ref mz, .int mc, .int cp, .ref mh, .int bg, .int en, .ref me, .int ou, .int mp, .int fa])), (mb, .inl (cI, 600, .inl mf)), (mz, .inl (cI, 3, .inl sz)), (mh, .inl (cI, 224, .inl hi)), (me, .inl (cI, 32, .inl tb))] := by
  intro n
  induction n with
  | zero =>
    intro v8 v9 w8 w9 h
    rw [zf_M_crc_L54_0] at h
    cases h
  | succ n ih =>
    intro v8 v9 w8 w9 h hx
    have h := (zf_M_crc_L54_s  n v8 v9).symm.trans h
    refine G_iload F zd_M_crc_54 (j := 4) rfl ?_
    refine G_bipush (v := (8 : Int32)) F zd_M_crc_56 (by decide) ?_
    refine G_icmp_ge F zd_M_crc_58 (tgt := 95) rfl (fun h0 => ?_) (fun h0 => ?_)
    · have h := iP h h0
      obtain ⟨q1, q2⟩ := inj2 h
      subst q1
      subst q2
      exact G_lv [0, 1, 2, 3, 4] rfl hx
    · have h := iN h h0
      refine G_iload_n F zd_M_crc_61 rfl (j := 2) rfl ?_
      refine G_iconst (v := (1 : Int32)) F zd_M_crc_62 (by decide) ?_
      refine G_iand F zd_M_crc_63 ?_
      refine G_iconst (v := (1 : Int32)) F zd_M_crc_64 (by decide) ?_
      obtain ⟨u10, hj73, h⟩ := bc1_s h
      have X73 : G D 6 k 0 0 73 [(0, .ref ma), (1, .int i1), (2, .int v8), (3, .int v6), (4, .int v9)] [.int u10] [(ma, .inr (8, [.int v4, .ref mb, .ref mz, .int mc, .int cp, .ref mh, .int bg, .int en, .ref me, .int ou, .int mp, .int fa])), (mb, .inl (cI, 600, .inl mf)), (mz, .inl (cI, 3, .inl sz)), (mh, .inl (cI, 224, .inl hi)), (me, .inl (cI, 32, .inl tb))] := by
        refine G_istore F zd_M_crc_73 (by decide) (L' := [(5, .int u10), (0, .ref ma), (1, .int i1), (2, .int v8), (3, .int v6), (4, .int v9)]) rfl ?_
        refine G_iload_n F zd_M_crc_75 rfl (j := 3) rfl ?_
        refine G_iconst (v := (1 : Int32)) F zd_M_crc_76 (by decide) ?_
        refine G_iushr F zd_M_crc_77 ?_
        obtain ⟨v11, ev11, h⟩ := bnd_s h
        refine G_topi ev11 ?_
        refine G_istore_n F zd_M_crc_78 rfl (by decide) (L' := [(2, .int v11), (5, .int u10), (0, .ref ma), (1, .int i1), (3, .int v6), (4, .int v9)]) rfl ?_
        refine G_iload F zd_M_crc_79 (j := 1) rfl ?_
        obtain ⟨u12, hj89, h⟩ := bc1_s h
        have X89 : G D 6 k 0 0 89 [(0, .ref ma), (1, .int i1), (2, .int u12), (3, .int v6), (4, .int v9), (5, .int u10)] [] [(ma, .inr (8, [.int v4, .ref mb, .ref mz, .int mc, .int cp, .ref mh, .int bg, .int en, .ref me, .int ou, .int mp, .int fa])), (mb, .inl (cI, 600, .inl mf)), (mz, .inl (cI, 3, .inl sz)), (mh, .inl (cI, 224, .inl hi)), (me, .inl (cI, 32, .inl tb))] := by
          obtain ⟨v14, ev14, h⟩ := bnd_s h
          refine G_iinc F zd_M_crc_89 (j := 4) rfl (w := (1 : Int32)) (by decide) ev14 (by decide) (L' := [(4, .int v14), (0, .ref ma), (1, .int i1), (2, .int u12), (3, .int v6), (5, .int u10)]) rfl ?_
          refine G_goto F zd_M_crc_92 (tgt := 54) rfl ?_
          exact G_lv [1, 2, 3, 4, 0] rfl (ih _ _ _ _ h hx)
        have h := hj89
        refine G_if_eq F zd_M_crc_81 (tgt := 89) rfl (fun h0 => ?_) (fun h0 => ?_)
        · have h := iP h h0
          have q1 := Option.some.inj h
          subst q1
          exact G_lv [2, 3, 0, 4, 5, 1] rfl X89
        · have h := iN h h0
          refine G_iload_n F zd_M_crc_84 rfl (j := 0) rfl ?_
          refine G_ldc (v := (-2097792136 : Int32)) F aw_424 zd_M_crc_85 ?_
          refine G_ixor F zd_M_crc_87 ?_
          obtain ⟨v13, ev13, h⟩ := bnd_s h
          refine G_topi ev13 ?_
          refine G_istore_n F zd_M_crc_88 rfl (by decide) (L' := [(2, .int v13), (5, .int u10), (0, .ref ma), (1, .int i1), (3, .int v6), (4, .int v9)]) rfl ?_
          have q1 := Option.some.inj h
          subst q1
          exact G_lv [2, 3, 0, 4, 5, 1] rfl X89
      have h := hj73
      refine G_icmp_ne F zd_M_crc_65 (tgt := 72) rfl (fun h0 => ?_) (fun h0 => ?_)
      · have h := iN h h0
        refine G_iconst (v := (0 : Int32)) F zd_M_crc_72 (by decide) ?_
        have q1 := Option.some.inj h
        subst q1
        exact G_lv [0, 1, 2, 3, 4] rfl X73
      · have h := iP h h0
        refine G_iconst (v := (1 : Int32)) F zd_M_crc_68 (by decide) ?_
        refine G_goto F zd_M_crc_69 (tgt := 73) rfl ?_
        have q1 := Option.some.inj h
        subst q1
        exact G_lv [0, 1, 2, 3, 4] rfl X73
set_option maxHeartbeats 4000000 in
set_option maxRecDepth 100000 in
theorem zl_M_crc_26 {k : GC} {l : Launch} {D : va_G} {cB cI cJ : ClassId} (F : GF k l { frames := 1, cells := 0, slots := 0, locals := 22 } zc_M_crc 6 RX10 D cB cI cJ) (mf : Nat → Int32) (sz : Nat → Int32) (mc : Int32) (cp : Int32) (hi : Nat → Int32) (bg : Int32) (en : Int32) (tb : Nat → Int32) (ou : Int32) (mp : Int32) (fa : Int32) (i1 : Int32) (ma : Nat) (mb : Nat) (mz : Nat) (mh : Nat) (me : Nat) (v4 : Int32) : ∀ (n : Nat) (v5 : Int32) (v6 : Int32) (w5 : Int32) (w6 : Int32), zf_M_crc_L26 mf sz i1 n v5 v6 = some (w5, w6) → G D 6 k 0 0 101 [(0, .ref ma), (1, .int i1), (2, .int w5), (3, .int w6)] [] [(ma, .inr (8, [.int v4, .ref mb, .ref mz, .int mc, .int cp, .ref mh, .int bg, .int en, .ref me, .int ou, .int mp, .int fa])), (mb, .inl (cI, 600, .inl mf)), (mz, .inl (cI, 3, .inl sz)), (mh, .inl (cI, 224, .inl hi)), (me, .inl (cI, 32, .inl tb))] → G D 6 k 0 0 26 [(0, .ref ma), (1, .int i1), (2, .int v5), (3, .int v6)] [] [(ma, .inr (8, [.int v4, .ref mb, .ref mz, .int mc, .int cp, .ref mh, .int bg, .int en, .ref me, .int ou, .int mp, .int fa])), (mb, .inl (cI, 600, .inl mf)), (mz, .inl (cI, 3, .inl sz)), (mh, .inl (cI, 224, .inl hi)), (me, .inl (cI, 32, .inl tb))] := by
  intro n
  induction n with
  | zero =>
    intro v5 v6 w5 w6 h
    rw [zf_M_crc_L26_0] at h
    cases h
  | succ n ih =>
    intro v5 v6 w5 w6 h hx
    have h := (zf_M_crc_L26_s mf sz i1 n v5 v6).symm.trans h
    refine G_iload_n F zd_M_crc_26 rfl (j := 3) rfl ?_
    refine G_aload_n F zd_M_crc_27 rfl (j := 0) rfl ?_
    refine G_get F fa_M_13_M (q := 0) zd_M_crc_28 rfl rfl ?_
    refine G_iload_n F zd_M_crc_31 rfl (j := 1) rfl ?_
    obtain ⟨h0, h⟩ := gd_s h
    refine G_iaload F zd_M_crc_32 (q := 2) rfl h0 ?_
    refine G_icmp_ge F zd_M_crc_33 (tgt := 101) rfl (fun h0 => ?_) (fun h0 => ?_)
    · have h := iP h h0
      obtain ⟨q1, q2⟩ := inj2 h
      subst q1
      subst q2
      exact G_lv [0, 1, 2, 3] rfl hx
    · have h := iN h h0
      refine G_iload_n F zd_M_crc_36 rfl (j := 2) rfl ?_
      refine G_aload_n F zd_M_crc_37 rfl (j := 0) rfl ?_
      refine G_get F fa_M_7_M (q := 0) zd_M_crc_38 rfl rfl ?_
      refine G_sipush (v := (200 : Int32)) F zd_M_crc_41 (by decide) ?_
      refine G_iload_n F zd_M_crc_44 rfl (j := 1) rfl ?_
      refine G_imul F zd_M_crc_45 ?_
      refine G_iload_n F zd_M_crc_46 rfl (j := 3) rfl ?_
      refine G_iadd F zd_M_crc_47 ?_
      obtain ⟨h0, h⟩ := gd_s h
      refine G_iaload F zd_M_crc_48 (q := 1) rfl h0 ?_
      refine G_ixor F zd_M_crc_49 ?_
      obtain ⟨v7, ev7, h⟩ := bnd_s h
      refine G_topi ev7 ?_
      refine G_istore_n F zd_M_crc_50 rfl (by decide) (L' := [(2, .int v7), (0, .ref ma), (1, .int i1), (3, .int v6)]) rfl ?_
      refine G_iconst (v := (0 : Int32)) F zd_M_crc_51 (by decide) ?_
      refine G_istore F zd_M_crc_52 (by decide) (L' := [(4, .int (0 : Int32)), (2, .int v7), (0, .ref ma), (1, .int i1), (3, .int v6)]) rfl ?_
      obtain ⟨x15, x16, hl54, h⟩ := bc2_s h
      refine G_lv [2, 3, 1, 4, 0] rfl (zl_M_crc_54 F mf sz mc cp hi bg en tb ou mp fa i1 ma mb mz mh me v4 v6 1000 v7 (0 : Int32) x15 x16 hl54 ?_)
      obtain ⟨v17, ev17, h⟩ := bnd_s h
      refine G_iinc F zd_M_crc_95 (j := 3) rfl (w := (1 : Int32)) (by decide) ev17 (by decide) (L' := [(3, .int v17), (0, .ref ma), (1, .int i1), (2, .int x15), (4, .int x16)]) rfl ?_
      refine G_goto F zd_M_crc_98 (tgt := 26) rfl ?_
      exact G_lv [1, 2, 3, 0] rfl (ih _ _ _ _ h hx)
set_option maxHeartbeats 4000000 in
set_option maxRecDepth 100000 in
theorem zk_M_crc (l : Launch) (D : va_G) (cB cI cJ : ClassId) (ma : Nat) (mb : Nat) (mz : Nat) (mh : Nat) (me : Nat) (th : Int32) (mf : Nat → Int32) (sz : Nat → Int32) (mc : Int32) (cp : Int32) (hi : Nat → Int32) (bg : Int32) (en : Int32) (tb : Nat → Int32) (ou : Int32) (mp : Int32) (fa : Int32) (i1 : Int32) (r : Int32) (th' : Int32) (h : zf_M_crc mf sz i1 = some (r, th')) : CoI l zy_M_crc zw_M_crc { frames := 1, cells := 0, slots := 0, locals := 22 } D cB cI cJ [.ref ma, .int i1] [(ma, .inr (8, [.int th, .ref mb, .ref mz, .int mc, .int cp, .ref mh, .int bg, .int en, .ref me, .int ou, .int mp, .int fa])), (mb, .inl (cI, 600, .inl mf)), (mz, .inl (cI, 3, .inl sz)), (mh, .inl (cI, 224, .inl hi)), (me, .inl (cI, 32, .inl tb))] r [(ma, .inr (8, [.int th', .ref mb, .ref mz, .int mc, .int cp, .ref mh, .int bg, .int en, .ref me, .int ou, .int mp, .int fa])), (mb, .inl (cI, 600, .inl mf)), (mz, .inl (cI, 3, .inl sz)), (mh, .inl (cI, 224, .inl hi)), (me, .inl (cI, 32, .inl tb))] := by
  unfold zf_M_crc at h
  refine CoI.ofG (cc := zc_M_crc) (maxL := 6) (own := RX10) (by decide) rfl rfl rfl trivial (Nat.le_of_ble_eq_true rfl) (L0 := [(0, .ref ma), (1, .int i1)]) rfl (fun k F E => ?_)
  refine G_aload_n F zd_M_crc_0 rfl (j := 0) rfl ?_
  refine G_iload_n F zd_M_crc_1 rfl (j := 1) rfl ?_
  obtain ⟨v1, hc2, h⟩ := bc1_s h
  refine G_calliS0 F (zk_M_isRow l D cB cI cJ i1 v1 hc2) (rest := [.ref ma]) [] rfl rfl cv_M_26_M rfl rfl ⟨Nat.le_of_ble_eq_true rfl, Nat.le_of_ble_eq_true rfl⟩ hf0 rfl (Nat.le_of_ble_eq_true rfl) zd_M_crc_2 rfl ?_
  obtain ⟨u2, hj13, h⟩ := bc1_s h
  have X13 : G D 6 k 0 0 13 [(0, .ref ma), (1, .int i1)] [.int u2, .ref ma] [(ma, .inr (8, [.int th, .ref mb, .ref mz, .int mc, .int cp, .ref mh, .int bg, .int en, .ref me, .int ou, .int mp, .int fa])), (mb, .inl (cI, 600, .inl mf)), (mz, .inl (cI, 3, .inl sz)), (mh, .inl (cI, 224, .inl hi)), (me, .inl (cI, 32, .inl tb))] := by
    refine G_iconst (v := (0 : Int32)) F zd_M_crc_13 (by decide) ?_
    obtain ⟨v3, v4, hc14, h⟩ := bc2_s h
    refine G_calliV F (zk_M_fails l D cB cI cJ ma mb mz mh me th mf sz mc cp hi bg en tb ou mp fa u2 (0 : Int32) v3 v4 hc14) (rest := []) [0, 1, 2, 3, 4] rfl rfl rfl (ws' := [(ma, .inr (8, [.int v4, .ref mb, .ref mz, .int mc, .int cp, .ref mh, .int bg, .int en, .ref me, .int ou, .int mp, .int fa])), (mb, .inl (cI, 600, .inl mf)), (mz, .inl (cI, 3, .inl sz)), (mh, .inl (cI, 224, .inl hi)), (me, .inl (cI, 32, .inl tb))]) rfl (q0 := 0) rfl cv_M_34_M rfl rfl ⟨Nat.le_of_ble_eq_true rfl, Nat.le_of_ble_eq_true rfl⟩ hf0 rfl (Nat.le_of_ble_eq_true rfl) zd_M_crc_14 rfl ?_
    refine G_if_eq F zd_M_crc_17 (tgt := 22) rfl (fun h0 => ?_) (fun h0 => ?_)
    · have h := iP h h0
      refine G_iconst (v := (-1 : Int32)) F zd_M_crc_22 (by decide) ?_
      refine G_istore_n F zd_M_crc_23 rfl (by decide) (L' := [(2, .int (-1 : Int32)), (0, .ref ma), (1, .int i1)]) rfl ?_
      refine G_iconst (v := (0 : Int32)) F zd_M_crc_24 (by decide) ?_
      refine G_istore_n F zd_M_crc_25 rfl (by decide) (L' := [(3, .int (0 : Int32)), (2, .int (-1 : Int32)), (0, .ref ma), (1, .int i1)]) rfl ?_
      obtain ⟨x18, x19, hl26, h⟩ := bc2_s h
      refine G_lv [2, 3, 1, 0] rfl (zl_M_crc_26 F mf sz mc cp hi bg en tb ou mp fa i1 ma mb mz mh me v4 1000 (-1 : Int32) (0 : Int32) x18 x19 hl26 ?_)
      refine G_iload_n F zd_M_crc_101 rfl (j := 2) rfl ?_
      refine G_iconst (v := (-1 : Int32)) F zd_M_crc_102 (by decide) ?_
      refine G_ixor F zd_M_crc_103 ?_
      obtain ⟨q1, q2⟩ := inj2 h
      subst q1
      subst q2
      exact E 104 _ zd_M_crc_104
    · have h := iN h h0
      refine G_iconst (v := (0 : Int32)) F zd_M_crc_20 (by decide) ?_
      obtain ⟨q1, q2⟩ := inj2 h
      subst q1
      subst q2
      exact E 21 _ zd_M_crc_21
  have h := hj13
  refine G_if_ne F zd_M_crc_5 (tgt := 12) rfl (fun h0 => ?_) (fun h0 => ?_)
  · have h := iN h h0
    refine G_iconst (v := (0 : Int32)) F zd_M_crc_12 (by decide) ?_
    have q1 := Option.some.inj h
    subst q1
    exact G_lv [0, 1] rfl X13
  · have h := iP h h0
    refine G_iconst (v := (1 : Int32)) F zd_M_crc_8 (by decide) ?_
    refine G_goto F zd_M_crc_9 (tgt := 13) rfl ?_
    have q1 := Option.some.inj h
    subst q1
    exact G_lv [0, 1] rfl X13

set_option maxHeartbeats 4000000 in
set_option maxRecDepth 100000 in
theorem zk_M_turn (l : Launch) (D : va_G) (cB cI cJ : ClassId) (i0 : Int32) (i1 : Int32) (r : Int32) (h : zf_M_turn i0 i1 = some r) : CoI l zy_M_turn zw_M_turn { frames := 0, cells := 0, slots := 0, locals := 0 } D cB cI cJ [.int i0, .int i1] [] r [] := by
  unfold zf_M_turn at h
  refine CoI.ofG (cc := zc_M_turn) (maxL := 2) (own := RX10) (by decide) rfl rfl rfl trivial (Nat.le_of_ble_eq_true rfl) (L0 := [(0, .int i0), (1, .int i1)]) rfl (fun k F E => ?_)
  refine G_iload_n F zd_M_turn_0 rfl (j := 0) rfl ?_
  refine G_iload_n F zd_M_turn_1 rfl (j := 1) rfl ?_
  refine G_ishl F zd_M_turn_2 ?_
  refine G_iload_n F zd_M_turn_3 rfl (j := 0) rfl ?_
  refine G_bipush (v := (32 : Int32)) F zd_M_turn_4 (by decide) ?_
  refine G_iload_n F zd_M_turn_6 rfl (j := 1) rfl ?_
  refine G_isub F zd_M_turn_7 ?_
  refine G_iushr F zd_M_turn_8 ?_
  refine G_ior F zd_M_turn_9 ?_
  have q1 := Option.some.inj h
  subst q1
  exact E 10 _ zd_M_turn_10

set_option maxHeartbeats 4000000 in
set_option maxRecDepth 100000 in
theorem zk_M_rowInt (l : Launch) (D : va_G) (cB cI cJ : ClassId) (ma : Nat) (mb : Nat) (mz : Nat) (mh : Nat) (me : Nat) (th : Int32) (mf : Nat → Int32) (sz : Nat → Int32) (mc : Int32) (cp : Int32) (hi : Nat → Int32) (bg : Int32) (en : Int32) (tb : Nat → Int32) (ou : Int32) (mp : Int32) (fa : Int32) (i1 : Int32) (i2 : Int32) (r : Int32) (h : zf_M_rowInt mf i1 i2 = some r) : CoI l zy_M_rowInt zw_M_rowInt { frames := 1, cells := 0, slots := 0, locals := 23 } D cB cI cJ [.ref ma, .int i1, .int i2] [(ma, .inr (8, [.int th, .ref mb, .ref mz, .int mc, .int cp, .ref mh, .int bg, .int en, .ref me, .int ou, .int mp, .int fa])), (mb, .inl (cI, 600, .inl mf)), (mz, .inl (cI, 3, .inl sz)), (mh, .inl (cI, 224, .inl hi)), (me, .inl (cI, 32, .inl tb))] r [(ma, .inr (8, [.int th, .ref mb, .ref mz, .int mc, .int cp, .ref mh, .int bg, .int en, .ref me, .int ou, .int mp, .int fa])), (mb, .inl (cI, 600, .inl mf)), (mz, .inl (cI, 3, .inl sz)), (mh, .inl (cI, 224, .inl hi)), (me, .inl (cI, 32, .inl tb))] := by
  unfold zf_M_rowInt at h
  refine CoI.ofG (cc := zc_M_rowInt) (maxL := 4) (own := RX10) (by decide) rfl rfl rfl trivial (Nat.le_of_ble_eq_true rfl) (L0 := [(0, .ref ma), (1, .int i1), (2, .int i2)]) rfl (fun k F E => ?_)
  refine G_sipush (v := (200 : Int32)) F zd_M_rowInt_0 (by decide) ?_
  refine G_iload_n F zd_M_rowInt_3 rfl (j := 1) rfl ?_
  refine G_imul F zd_M_rowInt_4 ?_
  refine G_iload_n F zd_M_rowInt_5 rfl (j := 2) rfl ?_
  refine G_iadd F zd_M_rowInt_6 ?_
  obtain ⟨v1, ev1, h⟩ := bnd_s h
  refine G_topi ev1 ?_
  refine G_istore_n F zd_M_rowInt_7 rfl (by decide) (L' := [(3, .int v1), (0, .ref ma), (1, .int i1), (2, .int i2)]) rfl ?_
  refine G_aload_n F zd_M_rowInt_8 rfl (j := 1) rfl ?_
  refine G_get F fa_M_7_M (q := 0) zd_M_rowInt_9 rfl rfl ?_
  refine G_iload_n F zd_M_rowInt_12 rfl (j := 0) rfl ?_
  obtain ⟨h0, h⟩ := gd_s h
  refine G_iaload F zd_M_rowInt_13 (q := 1) rfl h0 ?_
  refine G_aload_n F zd_M_rowInt_14 rfl (j := 1) rfl ?_
  refine G_get F fa_M_7_M (q := 0) zd_M_rowInt_15 rfl rfl ?_
  refine G_iload_n F zd_M_rowInt_18 rfl (j := 0) rfl ?_
  refine G_iconst (v := (1 : Int32)) F zd_M_rowInt_19 (by decide) ?_
  refine G_iadd F zd_M_rowInt_20 ?_
  obtain ⟨h0, h⟩ := gd_s h
  refine G_iaload F zd_M_rowInt_21 (q := 1) rfl h0 ?_
  refine G_aload_n F zd_M_rowInt_22 rfl (j := 1) rfl ?_
  refine G_get F fa_M_7_M (q := 0) zd_M_rowInt_23 rfl rfl ?_
  refine G_iload_n F zd_M_rowInt_26 rfl (j := 0) rfl ?_
  refine G_iconst (v := (2 : Int32)) F zd_M_rowInt_27 (by decide) ?_
  refine G_iadd F zd_M_rowInt_28 ?_
  obtain ⟨h0, h⟩ := gd_s h
  refine G_iaload F zd_M_rowInt_29 (q := 1) rfl h0 ?_
  refine G_aload_n F zd_M_rowInt_30 rfl (j := 1) rfl ?_
  refine G_get F fa_M_7_M (q := 0) zd_M_rowInt_31 rfl rfl ?_
  refine G_iload_n F zd_M_rowInt_34 rfl (j := 0) rfl ?_
  refine G_iconst (v := (3 : Int32)) F zd_M_rowInt_35 (by decide) ?_
  refine G_iadd F zd_M_rowInt_36 ?_
  obtain ⟨h0, h⟩ := gd_s h
  refine G_iaload F zd_M_rowInt_37 (q := 1) rfl h0 ?_
  obtain ⟨v2, hc38, h⟩ := bc1_s h
  refine G_calliS0 F (zk_M_four l D cB cI cJ (mf (Int32.toNatClampNeg v1)) (mf (Int32.toNatClampNeg (v1 + (1 : Int32)))) (mf (Int32.toNatClampNeg (v1 + (2 : Int32)))) (mf (Int32.toNatClampNeg (v1 + (3 : Int32)))) v2 hc38) (rest := []) [] rfl rfl cv_M_46_M rfl rfl ⟨Nat.le_of_ble_eq_true rfl, Nat.le_of_ble_eq_true rfl⟩ hf0 rfl (Nat.le_of_ble_eq_true rfl) zd_M_rowInt_38 rfl ?_
  have q1 := Option.some.inj h
  subst q1
  exact E 41 _ zd_M_rowInt_41

set_option maxHeartbeats 4000000 in
set_option maxRecDepth 100000 in
theorem zl_M_lane_6 {k : GC} {l : Launch} {D : va_G} {cB cI cJ : ClassId} (F : GF k l { frames := 2, cells := 0, slots := 0, locals := 46 } zc_M_lane 6 RX10 D cB cI cJ) (th : Int32) (mf : Nat → Int32) (sz : Nat → Int32) (mc : Int32) (cp : Int32) (hi : Nat → Int32) (bg : Int32) (en : Int32) (tb : Nat → Int32) (ou : Int32) (mp : Int32) (fa : Int32) (i1 : Int32) (i2 : Int32) (i3 : Int32) (ma : Nat) (mb : Nat) (mz : Nat) (mh : Nat) (me : Nat) : ∀ (n : Nat) (v1 : Int32) (v2 : Int32) (w1 : Int32) (w2 : Int32), zf_M_lane_L6 mf sz i1 i2 n v1 v2 = some (w1, w2) → G D 6 k 0 0 53 [(0, .ref ma), (1, .int i1), (2, .int i2), (3, .int i3), (4, .int w1), (5, .int w2)] [] [(ma, .inr (8, [.int th, .ref mb, .ref mz, .int mc, .int cp, .ref mh, .int bg, .int en, .ref me, .int ou, .int mp, .int fa])), (mb, .inl (cI, 600, .inl mf)), (mz, .inl (cI, 3, .inl sz)), (mh, .inl (cI, 224, .inl hi)), (me, .inl (cI, 32, .inl tb))] → G D 6 k 0 0 6 [(0, .ref ma), (1, .int i1), (2, .int i2), (3, .int i3), (4, .int v1), (5, .int v2)] [] [(ma, .inr (8, [.int th, .ref mb, .ref mz, .int mc, .int cp, .ref mh, .int bg, .int en, .ref me, .int ou, .int mp, .int fa])), (mb, .inl (cI, 600, .inl mf)), (mz, .inl (cI, 3, .inl sz)), (mh, .inl (cI, 224, .inl hi)), (me, .inl (cI, 32, .inl tb))] := by
  intro n
  induction n with
  | zero =>
    intro v1 v2 w1 w2 h
    rw [zf_M_lane_L6_0] at h
    cases h
  | succ n ih =>
    intro v1 v2 w1 w2 h hx
    have h := (zf_M_lane_L6_s mf sz i1 i2 n v1 v2).symm.trans h
    refine G_iload F zd_M_lane_6 (j := 5) rfl ?_
    refine G_bipush (v := (16 : Int32)) F zd_M_lane_8 (by decide) ?_
    refine G_iadd F zd_M_lane_10 ?_
    refine G_aload_n F zd_M_lane_11 rfl (j := 0) rfl ?_
    refine G_get F fa_M_13_M (q := 0) zd_M_lane_12 rfl rfl ?_
    refine G_iload_n F zd_M_lane_15 rfl (j := 1) rfl ?_
    obtain ⟨h0, h⟩ := gd_s h
    refine G_iaload F zd_M_lane_16 (q := 2) rfl h0 ?_
    refine G_icmp_gt F zd_M_lane_17 (tgt := 53) rfl (fun h0 => ?_) (fun h0 => ?_)
    · have h := iP h h0
      obtain ⟨q1, q2⟩ := inj2 h
      subst q1
      subst q2
      exact G_lv [0, 1, 2, 3, 4, 5] rfl hx
    · have h := iN h h0
      refine G_iload F zd_M_lane_20 (j := 4) rfl ?_
      refine G_aload_n F zd_M_lane_22 rfl (j := 0) rfl ?_
      refine G_iload_n F zd_M_lane_23 rfl (j := 1) rfl ?_
      refine G_iload F zd_M_lane_24 (j := 5) rfl ?_
      refine G_iconst (v := (4 : Int32)) F zd_M_lane_26 (by decide) ?_
      refine G_iload_n F zd_M_lane_27 rfl (j := 2) rfl ?_
      refine G_imul F zd_M_lane_28 ?_
      refine G_iadd F zd_M_lane_29 ?_
      obtain ⟨v3, hc30, h⟩ := bc1_s h
      refine G_calliV0 F (zk_M_rowInt l D cB cI cJ ma mb mz mh me th mf sz mc cp hi bg en tb ou mp fa i1 (v2 + ((4 : Int32) * i2)) v3 hc30) (rest := [.int v1]) [0, 1, 2, 3, 4] rfl rfl (q0 := 0) rfl cv_M_142_M rfl rfl ⟨Nat.le_of_ble_eq_true rfl, Nat.le_of_ble_eq_true rfl⟩ hf0 rfl (Nat.le_of_ble_eq_true rfl) zd_M_lane_30 rfl ?_
      refine G_ldc (v := (-2048144777 : Int32)) F aw_429 zd_M_lane_33 ?_
      refine G_imul F zd_M_lane_35 ?_
      refine G_iadd F zd_M_lane_36 ?_
      refine G_bipush (v := (13 : Int32)) F zd_M_lane_37 (by decide) ?_
      obtain ⟨v4, hc39, h⟩ := bc1_s h
      refine G_calliS0 F (zk_M_turn l D cB cI cJ (v1 + (v3 * (-2048144777 : Int32))) (13 : Int32) v4 hc39) (rest := []) [] rfl rfl cv_M_146_M rfl rfl ⟨Nat.le_of_ble_eq_true rfl, Nat.le_of_ble_eq_true rfl⟩ hf0 rfl (Nat.le_of_ble_eq_true rfl) zd_M_lane_39 rfl ?_
      refine G_ldc (v := (-1640531535 : Int32)) F aw_330 zd_M_lane_42 ?_
      refine G_imul F zd_M_lane_44 ?_
      obtain ⟨v5, ev5, h⟩ := bnd_s h
      refine G_topi ev5 ?_
      refine G_istore F zd_M_lane_45 (by decide) (L' := [(4, .int v5), (0, .ref ma), (1, .int i1), (2, .int i2), (3, .int i3), (5, .int v2)]) rfl ?_
      obtain ⟨v6, ev6, h⟩ := bnd_s h
      refine G_iinc F zd_M_lane_47 (j := 5) rfl (w := (16 : Int32)) (by decide) ev6 (by decide) (L' := [(5, .int v6), (4, .int v5), (0, .ref ma), (1, .int i1), (2, .int i2), (3, .int i3)]) rfl ?_
      refine G_goto F zd_M_lane_50 (tgt := 6) rfl ?_
      exact G_lv [2, 3, 4, 5, 1, 0] rfl (ih _ _ _ _ h hx)
set_option maxHeartbeats 4000000 in
set_option maxRecDepth 100000 in
theorem zk_M_lane (l : Launch) (D : va_G) (cB cI cJ : ClassId) (ma : Nat) (mb : Nat) (mz : Nat) (mh : Nat) (me : Nat) (th : Int32) (mf : Nat → Int32) (sz : Nat → Int32) (mc : Int32) (cp : Int32) (hi : Nat → Int32) (bg : Int32) (en : Int32) (tb : Nat → Int32) (ou : Int32) (mp : Int32) (fa : Int32) (i1 : Int32) (i2 : Int32) (i3 : Int32) (r : Int32) (h : zf_M_lane mf sz i1 i2 i3 = some r) : CoI l zy_M_lane zw_M_lane { frames := 2, cells := 0, slots := 0, locals := 46 } D cB cI cJ [.ref ma, .int i1, .int i2, .int i3] [(ma, .inr (8, [.int th, .ref mb, .ref mz, .int mc, .int cp, .ref mh, .int bg, .int en, .ref me, .int ou, .int mp, .int fa])), (mb, .inl (cI, 600, .inl mf)), (mz, .inl (cI, 3, .inl sz)), (mh, .inl (cI, 224, .inl hi)), (me, .inl (cI, 32, .inl tb))] r [(ma, .inr (8, [.int th, .ref mb, .ref mz, .int mc, .int cp, .ref mh, .int bg, .int en, .ref me, .int ou, .int mp, .int fa])), (mb, .inl (cI, 600, .inl mf)), (mz, .inl (cI, 3, .inl sz)), (mh, .inl (cI, 224, .inl hi)), (me, .inl (cI, 32, .inl tb))] := by
  unfold zf_M_lane at h
  refine CoI.ofG (cc := zc_M_lane) (maxL := 6) (own := RX10) (by decide) rfl rfl rfl trivial (Nat.le_of_ble_eq_true rfl) (L0 := [(0, .ref ma), (1, .int i1), (2, .int i2), (3, .int i3)]) rfl (fun k F E => ?_)
  refine G_iload_n F zd_M_lane_0 rfl (j := 3) rfl ?_
  refine G_istore F zd_M_lane_1 (by decide) (L' := [(4, .int i3), (0, .ref ma), (1, .int i1), (2, .int i2), (3, .int i3)]) rfl ?_
  refine G_iconst (v := (0 : Int32)) F zd_M_lane_3 (by decide) ?_
  refine G_istore F zd_M_lane_4 (by decide) (L' := [(5, .int (0 : Int32)), (4, .int i3), (0, .ref ma), (1, .int i1), (2, .int i2), (3, .int i3)]) rfl ?_
  obtain ⟨x7, x8, hl6, h⟩ := bc2_s h
  refine G_lv [2, 3, 4, 5, 1, 0] rfl (zl_M_lane_6 F th mf sz mc cp hi bg en tb ou mp fa i1 i2 i3 ma mb mz mh me 1000 i3 (0 : Int32) x7 x8 hl6 ?_)
  refine G_iload F zd_M_lane_53 (j := 4) rfl ?_
  have q1 := Option.some.inj h
  subst q1
  exact E 55 _ zd_M_lane_55

set_option maxHeartbeats 4000000 in
set_option maxRecDepth 100000 in
theorem zl_M_hash_124 {k : GC} {l : Launch} {D : va_G} {cB cI cJ : ClassId} (F : GF k l { frames := 3, cells := 0, slots := 0, locals := 71 } zc_M_hash 7 RX10 D cB cI cJ) (mf : Nat → Int32) (sz : Nat → Int32) (mc : Int32) (cp : Int32) (hi : Nat → Int32) (bg : Int32) (en : Int32) (tb : Nat → Int32) (ou : Int32) (mp : Int32) (fa : Int32) (i1 : Int32) (i2 : Int32) (ma : Nat) (mb : Nat) (mz : Nat) (mh : Nat) (me : Nat) (v4 : Int32) (v5 : Int32) : ∀ (n : Nat) (v19 : Int32) (v20 : Int32) (v21 : Int32) (w19 : Int32) (w20 : Int32) (w21 : Int32), zf_M_hash_L124 mf i1 v5 n v19 v20 v21 = some (w19, w20, w21) → G D 7 k 0 0 167 [(0, .ref ma), (1, .int i1), (2, .int i2), (3, .int v5), (4, .int w19), (5, .int w20), (6, .int w21)] [] [(ma, .inr (8, [.int v4, .ref mb, .ref mz, .int mc, .int cp, .ref mh, .int bg, .int en, .ref me, .int ou, .int mp, .int fa])), (mb, .inl (cI, 600, .inl mf)), (mz, .inl (cI, 3, .inl sz)), (mh, .inl (cI, 224, .inl hi)), (me, .inl (cI, 32, .inl tb))] → G D 7 k 0 0 124 [(0, .ref ma), (1, .int i1), (2, .int i2), (3, .int v5), (4, .int v19), (5, .int v20), (6, .int v21)] [] [(ma, .inr (8, [.int v4, .ref mb, .ref mz, .int mc, .int cp, .ref mh, .int bg, .int en, .ref me, .int ou, .int mp, .int fa])), (mb, .inl (cI, 600, .inl mf)), (mz, .inl (cI, 3, .inl sz)), (mh, .inl (cI, 224, .inl hi)), (me, .inl (cI, 32, .inl tb))] := by
  intro n
  induction n with
  | zero =>
    intro v19 v20 v21 w19 w20 w21 h
    rw [zf_M_hash_L124_0] at h
    cases h
  | succ n ih =>
    intro v19 v20 v21 w19 w20 w21 h hx
    have h := (zf_M_hash_L124_s mf i1 v5 n v19 v20 v21).symm.trans h
    refine G_iload F zd_M_hash_124 (j := 6) rfl ?_
    refine G_iconst (v := (4 : Int32)) F zd_M_hash_126 (by decide) ?_
    refine G_iadd F zd_M_hash_127 ?_
    refine G_iload_n F zd_M_hash_128 rfl (j := 3) rfl ?_
    refine G_icmp_gt F zd_M_hash_129 (tgt := 167) rfl (fun h0 => ?_) (fun h0 => ?_)
    · have h := iP h h0
      obtain ⟨q1, q2, q3⟩ := inj3 h
      subst q1
      subst q2
      subst q3
      exact G_lv [0, 1, 2, 3, 4, 5, 6] rfl hx
    · have h := iN h h0
      refine G_iload F zd_M_hash_132 (j := 4) rfl ?_
      refine G_aload_n F zd_M_hash_134 rfl (j := 0) rfl ?_
      refine G_iload_n F zd_M_hash_135 rfl (j := 1) rfl ?_
      refine G_iload F zd_M_hash_136 (j := 6) rfl ?_
      obtain ⟨v22, hc138, h⟩ := bc1_s h
      refine G_calliV0 F (zk_M_rowInt l D cB cI cJ ma mb mz mh me v4 mf sz mc cp hi bg en tb ou mp fa i1 v21 v22 hc138) (rest := [.int v19]) [0, 1, 2, 3, 4] rfl rfl (q0 := 0) rfl cv_M_142_M rfl rfl ⟨Nat.le_of_ble_eq_true rfl, Nat.le_of_ble_eq_true rfl⟩ hf0 rfl (Nat.le_of_ble_eq_true rfl) zd_M_hash_138 rfl ?_
      refine G_ldc (v := (-1028477379 : Int32)) F aw_438 zd_M_hash_141 ?_
      refine G_imul F zd_M_hash_143 ?_
      refine G_iadd F zd_M_hash_144 ?_
      refine G_bipush (v := (17 : Int32)) F zd_M_hash_145 (by decide) ?_
      obtain ⟨v23, hc147, h⟩ := bc1_s h
      refine G_calliS0 F (zk_M_turn l D cB cI cJ (v19 + (v22 * (-1028477379 : Int32))) (17 : Int32) v23 hc147) (rest := []) [] rfl rfl cv_M_146_M rfl rfl ⟨Nat.le_of_ble_eq_true rfl, Nat.le_of_ble_eq_true rfl⟩ hf0 rfl (Nat.le_of_ble_eq_true rfl) zd_M_hash_147 rfl ?_
      refine G_ldc (v := (668265263 : Int32)) F aw_439 zd_M_hash_150 ?_
      refine G_imul F zd_M_hash_152 ?_
      obtain ⟨v24, ev24, h⟩ := bnd_s h
      refine G_topi ev24 ?_
      refine G_istore F zd_M_hash_153 (by decide) (L' := [(4, .int v24), (0, .ref ma), (1, .int i1), (2, .int i2), (3, .int v5), (5, .int v20), (6, .int v21)]) rfl ?_
      refine G_iload F zd_M_hash_155 (j := 6) rfl ?_
      refine G_iconst (v := (4 : Int32)) F zd_M_hash_157 (by decide) ?_
      refine G_iadd F zd_M_hash_158 ?_
      obtain ⟨v25, ev25, h⟩ := bnd_s h
      refine G_topi ev25 ?_
      refine G_istore F zd_M_hash_159 (by decide) (L' := [(5, .int v25), (4, .int v24), (0, .ref ma), (1, .int i1), (2, .int i2), (3, .int v5), (6, .int v21)]) rfl ?_
      obtain ⟨v26, ev26, h⟩ := bnd_s h
      refine G_iinc F zd_M_hash_161 (j := 6) rfl (w := (4 : Int32)) (by decide) ev26 (by decide) (L' := [(6, .int v26), (5, .int v25), (4, .int v24), (0, .ref ma), (1, .int i1), (2, .int i2), (3, .int v5)]) rfl ?_
      refine G_goto F zd_M_hash_164 (tgt := 124) rfl ?_
      exact G_lv [3, 4, 5, 6, 2, 1, 0] rfl (ih _ _ _ _ _ _ h hx)
set_option maxHeartbeats 4000000 in
set_option maxRecDepth 100000 in
theorem zl_M_hash_171 {k : GC} {l : Launch} {D : va_G} {cB cI cJ : ClassId} (F : GF k l { frames := 3, cells := 0, slots := 0, locals := 71 } zc_M_hash 7 RX10 D cB cI cJ) (mf : Nat → Int32) (sz : Nat → Int32) (mc : Int32) (cp : Int32) (hi : Nat → Int32) (bg : Int32) (en : Int32) (tb : Nat → Int32) (ou : Int32) (mp : Int32) (fa : Int32) (i1 : Int32) (i2 : Int32) (ma : Nat) (mb : Nat) (mz : Nat) (mh : Nat) (me : Nat) (v4 : Int32) (v5 : Int32) (x28 : Int32) : ∀ (n : Nat) (v30 : Int32) (v31 : Int32) (w30 : Int32) (w31 : Int32), zf_M_hash_L171 mf i1 v5 n v30 v31 = some (w30, w31) → G D 7 k 0 0 212 [(0, .ref ma), (1, .int i1), (2, .int i2), (3, .int v5), (4, .int w30), (5, .int x28), (6, .int w31)] [] [(ma, .inr (8, [.int v4, .ref mb, .ref mz, .int mc, .int cp, .ref mh, .int bg, .int en, .ref me, .int ou, .int mp, .int fa])), (mb, .inl (cI, 600, .inl mf)), (mz, .inl (cI, 3, .inl sz)), (mh, .inl (cI, 224, .inl hi)), (me, .inl (cI, 32, .inl tb))] → G D 7 k 0 0 171 [(0, .ref ma), (1, .int i1), (2, .int i2), (3, .int v5), (4, .int v30), (5, .int x28), (6, .int v31)] [] [(ma, .inr (8, [.int v4, .ref mb, .ref mz, .int mc, .int cp, .ref mh, .int bg, .int en, .ref me, .int ou, .int mp, .int fa])), (mb, .inl (cI, 600, .inl mf)), (mz, .inl (cI, 3, .inl sz)), (mh, .inl (cI, 224, .inl hi)), (me, .inl (cI, 32, .inl tb))] := by
  intro n
  induction n with
  | zero =>
    intro v30 v31 w30 w31 h
    rw [zf_M_hash_L171_0] at h
    cases h
  | succ n ih =>
    intro v30 v31 w30 w31 h hx
    have h := (zf_M_hash_L171_s mf i1 v5 n v30 v31).symm.trans h
    refine G_iload F zd_M_hash_171 (j := 6) rfl ?_
    refine G_iload_n F zd_M_hash_173 rfl (j := 3) rfl ?_
    refine G_icmp_ge F zd_M_hash_174 (tgt := 212) rfl (fun h0 => ?_) (fun h0 => ?_)
    · have h := iP h h0
      obtain ⟨q1, q2⟩ := inj2 h
      subst q1
      subst q2
      exact G_lv [0, 1, 2, 3, 4, 5, 6] rfl hx
    · have h := iN h h0
      refine G_iload F zd_M_hash_177 (j := 4) rfl ?_
      refine G_aload_n F zd_M_hash_179 rfl (j := 0) rfl ?_
      refine G_get F fa_M_7_M (q := 0) zd_M_hash_180 rfl rfl ?_
      refine G_sipush (v := (200 : Int32)) F zd_M_hash_183 (by decide) ?_
      refine G_iload_n F zd_M_hash_186 rfl (j := 1) rfl ?_
      refine G_imul F zd_M_hash_187 ?_
      refine G_iload F zd_M_hash_188 (j := 6) rfl ?_
      refine G_iadd F zd_M_hash_190 ?_
      obtain ⟨h0, h⟩ := gd_s h
      refine G_iaload F zd_M_hash_191 (q := 1) rfl h0 ?_
      refine G_ldc (v := (374761393 : Int32)) F aw_433 zd_M_hash_192 ?_
      refine G_imul F zd_M_hash_194 ?_
      refine G_iadd F zd_M_hash_195 ?_
      refine G_bipush (v := (11 : Int32)) F zd_M_hash_196 (by decide) ?_
      obtain ⟨v32, hc198, h⟩ := bc1_s h
      refine G_calliS0 F (zk_M_turn l D cB cI cJ (v30 + ((mf (Int32.toNatClampNeg (((200 : Int32) * i1) + v31))) * (374761393 : Int32))) (11 : Int32) v32 hc198) (rest := []) [] rfl rfl cv_M_146_M rfl rfl ⟨Nat.le_of_ble_eq_true rfl, Nat.le_of_ble_eq_true rfl⟩ hf0 rfl (Nat.le_of_ble_eq_true rfl) zd_M_hash_198 rfl ?_
      refine G_ldc (v := (-1640531535 : Int32)) F aw_330 zd_M_hash_201 ?_
      refine G_imul F zd_M_hash_203 ?_
      obtain ⟨v33, ev33, h⟩ := bnd_s h
      refine G_topi ev33 ?_
      refine G_istore F zd_M_hash_204 (by decide) (L' := [(4, .int v33), (0, .ref ma), (1, .int i1), (2, .int i2), (3, .int v5), (5, .int x28), (6, .int v31)]) rfl ?_
      obtain ⟨v34, ev34, h⟩ := bnd_s h
      refine G_iinc F zd_M_hash_206 (j := 6) rfl (w := (1 : Int32)) (by decide) ev34 (by decide) (L' := [(6, .int v34), (4, .int v33), (0, .ref ma), (1, .int i1), (2, .int i2), (3, .int v5), (5, .int x28)]) rfl ?_
      refine G_goto F zd_M_hash_209 (tgt := 171) rfl ?_
      exact G_lv [2, 3, 4, 5, 1, 6, 0] rfl (ih _ _ _ _ h hx)
set_option maxHeartbeats 4000000 in
set_option maxRecDepth 100000 in
theorem zk_M_hash (l : Launch) (D : va_G) (cB cI cJ : ClassId) (ma : Nat) (mb : Nat) (mz : Nat) (mh : Nat) (me : Nat) (th : Int32) (mf : Nat → Int32) (sz : Nat → Int32) (mc : Int32) (cp : Int32) (hi : Nat → Int32) (bg : Int32) (en : Int32) (tb : Nat → Int32) (ou : Int32) (mp : Int32) (fa : Int32) (i1 : Int32) (i2 : Int32) (r : Int32) (th' : Int32) (h : zf_M_hash mf sz i1 i2 = some (r, th')) : CoI l zy_M_hash zw_M_hash { frames := 3, cells := 0, slots := 0, locals := 71 } D cB cI cJ [.ref ma, .int i1, .int i2] [(ma, .inr (8, [.int th, .ref mb, .ref mz, .int mc, .int cp, .ref mh, .int bg, .int en, .ref me, .int ou, .int mp, .int fa])), (mb, .inl (cI, 600, .inl mf)), (mz, .inl (cI, 3, .inl sz)), (mh, .inl (cI, 224, .inl hi)), (me, .inl (cI, 32, .inl tb))] r [(ma, .inr (8, [.int th', .ref mb, .ref mz, .int mc, .int cp, .ref mh, .int bg, .int en, .ref me, .int ou, .int mp, .int fa])), (mb, .inl (cI, 600, .inl mf)), (mz, .inl (cI, 3, .inl sz)), (mh, .inl (cI, 224, .inl hi)), (me, .inl (cI, 32, .inl tb))] := by
  unfold zf_M_hash at h
  refine CoI.ofG (cc := zc_M_hash) (maxL := 7) (own := RX10) (by decide) rfl rfl rfl trivial (Nat.le_of_ble_eq_true rfl) (L0 := [(0, .ref ma), (1, .int i1), (2, .int i2)]) rfl (fun k F E => ?_)
  refine G_aload_n F zd_M_hash_0 rfl (j := 0) rfl ?_
  refine G_iload_n F zd_M_hash_1 rfl (j := 1) rfl ?_
  obtain ⟨v1, hc2, h⟩ := bc1_s h
  refine G_calliS0 F (zk_M_isRow l D cB cI cJ i1 v1 hc2) (rest := [.ref ma]) [] rfl rfl cv_M_26_M rfl rfl ⟨Nat.le_of_ble_eq_true rfl, Nat.le_of_ble_eq_true rfl⟩ hf0 rfl (Nat.le_of_ble_eq_true rfl) zd_M_hash_2 rfl ?_
  obtain ⟨u2, hj13, h⟩ := bc1_s h
  have X13 : G D 7 k 0 0 13 [(0, .ref ma), (1, .int i1), (2, .int i2)] [.int u2, .ref ma] [(ma, .inr (8, [.int th, .ref mb, .ref mz, .int mc, .int cp, .ref mh, .int bg, .int en, .ref me, .int ou, .int mp, .int fa])), (mb, .inl (cI, 600, .inl mf)), (mz, .inl (cI, 3, .inl sz)), (mh, .inl (cI, 224, .inl hi)), (me, .inl (cI, 32, .inl tb))] := by
    refine G_iconst (v := (0 : Int32)) F zd_M_hash_13 (by decide) ?_
    obtain ⟨v3, v4, hc14, h⟩ := bc2_s h
    refine G_calliV F (zk_M_fails l D cB cI cJ ma mb mz mh me th mf sz mc cp hi bg en tb ou mp fa u2 (0 : Int32) v3 v4 hc14) (rest := []) [0, 1, 2, 3, 4] rfl rfl rfl (ws' := [(ma, .inr (8, [.int v4, .ref mb, .ref mz, .int mc, .int cp, .ref mh, .int bg, .int en, .ref me, .int ou, .int mp, .int fa])), (mb, .inl (cI, 600, .inl mf)), (mz, .inl (cI, 3, .inl sz)), (mh, .inl (cI, 224, .inl hi)), (me, .inl (cI, 32, .inl tb))]) rfl (q0 := 0) rfl cv_M_34_M rfl rfl ⟨Nat.le_of_ble_eq_true rfl, Nat.le_of_ble_eq_true rfl⟩ hf0 rfl (Nat.le_of_ble_eq_true rfl) zd_M_hash_14 rfl ?_
    refine G_if_eq F zd_M_hash_17 (tgt := 22) rfl (fun h0 => ?_) (fun h0 => ?_)
    · have h := iP h h0
      refine G_aload_n F zd_M_hash_22 rfl (j := 0) rfl ?_
      refine G_get F fa_M_13_M (q := 0) zd_M_hash_23 rfl rfl ?_
      refine G_iload_n F zd_M_hash_26 rfl (j := 1) rfl ?_
      obtain ⟨h0, h⟩ := gd_s h
      refine G_iaload F zd_M_hash_27 (q := 2) rfl h0 ?_
      obtain ⟨v5, ev5, h⟩ := bnd_s h
      refine G_topi ev5 ?_
      refine G_istore_n F zd_M_hash_28 rfl (by decide) (L' := [(3, .int v5), (0, .ref ma), (1, .int i1), (2, .int i2)]) rfl ?_
      refine G_iload_n F zd_M_hash_29 rfl (j := 3) rfl ?_
      refine G_ldc (v := (374761393 : Int32)) F aw_433 zd_M_hash_30 ?_
      refine G_iadd F zd_M_hash_32 ?_
      obtain ⟨v6, ev6, h⟩ := bnd_s h
      refine G_topi ev6 ?_
      refine G_istore F zd_M_hash_33 (by decide) (L' := [(4, .int v6), (3, .int v5), (0, .ref ma), (1, .int i1), (2, .int i2)]) rfl ?_
      refine G_iload_n F zd_M_hash_35 rfl (j := 1) rfl ?_
      refine G_bipush (v := (16 : Int32)) F zd_M_hash_36 (by decide) ?_
      obtain ⟨u7, hj105, h⟩ := bc1_s h
      have X105 : G D 7 k 0 0 105 [(0, .ref ma), (1, .int i1), (2, .int i2), (3, .int v5), (4, .int u7)] [] [(ma, .inr (8, [.int v4, .ref mb, .ref mz, .int mc, .int cp, .ref mh, .int bg, .int en, .ref me, .int ou, .int mp, .int fa])), (mb, .inl (cI, 600, .inl mf)), (mz, .inl (cI, 3, .inl sz)), (mh, .inl (cI, 224, .inl hi)), (me, .inl (cI, 32, .inl tb))] := by
        refine G_iload F zd_M_hash_105 (j := 4) rfl ?_
        refine G_iload_n F zd_M_hash_107 rfl (j := 3) rfl ?_
        refine G_iadd F zd_M_hash_108 ?_
        obtain ⟨v17, ev17, h⟩ := bnd_s h
        refine G_topi ev17 ?_
        refine G_istore F zd_M_hash_109 (by decide) (L' := [(4, .int v17), (0, .ref ma), (1, .int i1), (2, .int i2), (3, .int v5)]) rfl ?_
        refine G_iload_n F zd_M_hash_111 rfl (j := 4) rfl ?_
        refine G_bipush (v := (16 : Int32)) F zd_M_hash_112 (by decide) ?_
        refine G_idiv F zd_M_hash_114 (by decide) ?_
        refine G_bipush (v := (16 : Int32)) F zd_M_hash_115 (by decide) ?_
        refine G_imul F zd_M_hash_117 ?_
        obtain ⟨v18, ev18, h⟩ := bnd_s h
        refine G_topi ev18 ?_
        refine G_istore F zd_M_hash_118 (by decide) (L' := [(5, .int v18), (4, .int v17), (0, .ref ma), (1, .int i1), (2, .int i2), (3, .int v5)]) rfl ?_
        refine G_iload F zd_M_hash_120 (j := 0) rfl ?_
        refine G_istore F zd_M_hash_122 (by decide) (L' := [(6, .int v18), (5, .int v18), (4, .int v17), (0, .ref ma), (1, .int i1), (2, .int i2), (3, .int v5)]) rfl ?_
        obtain ⟨x27, x28, x29, hl124, h⟩ := bc3_s h
        refine G_lv [3, 4, 5, 6, 2, 1, 0] rfl (zl_M_hash_124 F mf sz mc cp hi bg en tb ou mp fa i1 i2 ma mb mz mh me v4 v5 1000 v17 v18 v18 x27 x28 x29 hl124 ?_)
        refine G_iload F zd_M_hash_167 (j := 5) rfl ?_
        refine G_istore F zd_M_hash_169 (by decide) (L' := [(6, .int x28), (0, .ref ma), (1, .int i1), (2, .int i2), (3, .int v5), (4, .int x27), (5, .int x28)]) rfl ?_
        obtain ⟨x35, x36, hl171, h⟩ := bc2_s h
        refine G_lv [1, 2, 3, 4, 5, 6, 0] rfl (zl_M_hash_171 F mf sz mc cp hi bg en tb ou mp fa i1 i2 ma mb mz mh me v4 v5 x28 1000 x27 x28 x35 x36 hl171 ?_)
        refine G_iload F zd_M_hash_212 (j := 4) rfl ?_
        refine G_iload F zd_M_hash_214 (j := 4) rfl ?_
        refine G_bipush (v := (15 : Int32)) F zd_M_hash_216 (by decide) ?_
        refine G_iushr F zd_M_hash_218 ?_
        refine G_ixor F zd_M_hash_219 ?_
        obtain ⟨v37, ev37, h⟩ := bnd_s h
        refine G_topi ev37 ?_
        refine G_istore F zd_M_hash_220 (by decide) (L' := [(4, .int v37), (0, .ref ma), (1, .int i1), (2, .int i2), (3, .int v5), (5, .int x28), (6, .int x36)]) rfl ?_
        refine G_iload F zd_M_hash_222 (j := 0) rfl ?_
        refine G_ldc (v := (-2048144777 : Int32)) F aw_429 zd_M_hash_224 ?_
        refine G_imul F zd_M_hash_226 ?_
        obtain ⟨v38, ev38, h⟩ := bnd_s h
        refine G_topi ev38 ?_
        refine G_istore F zd_M_hash_227 (by decide) (L' := [(4, .int v38), (0, .ref ma), (1, .int i1), (2, .int i2), (3, .int v5), (5, .int x28), (6, .int x36)]) rfl ?_
        refine G_iload F zd_M_hash_229 (j := 0) rfl ?_
        refine G_iload F zd_M_hash_231 (j := 0) rfl ?_
        refine G_bipush (v := (13 : Int32)) F zd_M_hash_233 (by decide) ?_
        refine G_iushr F zd_M_hash_235 ?_
        refine G_ixor F zd_M_hash_236 ?_
        obtain ⟨v39, ev39, h⟩ := bnd_s h
        refine G_topi ev39 ?_
        refine G_istore F zd_M_hash_237 (by decide) (L' := [(4, .int v39), (0, .ref ma), (1, .int i1), (2, .int i2), (3, .int v5), (5, .int x28), (6, .int x36)]) rfl ?_
        refine G_iload F zd_M_hash_239 (j := 0) rfl ?_
        refine G_ldc (v := (-1028477379 : Int32)) F aw_438 zd_M_hash_241 ?_
        refine G_imul F zd_M_hash_243 ?_
        obtain ⟨v40, ev40, h⟩ := bnd_s h
        refine G_topi ev40 ?_
        refine G_istore F zd_M_hash_244 (by decide) (L' := [(4, .int v40), (0, .ref ma), (1, .int i1), (2, .int i2), (3, .int v5), (5, .int x28), (6, .int x36)]) rfl ?_
        refine G_iload F zd_M_hash_246 (j := 0) rfl ?_
        refine G_iload F zd_M_hash_248 (j := 0) rfl ?_
        refine G_bipush (v := (16 : Int32)) F zd_M_hash_250 (by decide) ?_
        refine G_iushr F zd_M_hash_252 ?_
        refine G_ixor F zd_M_hash_253 ?_
        obtain ⟨q1, q2⟩ := inj2 h
        subst q1
        subst q2
        exact E 254 _ zd_M_hash_254
      have h := hj105
      refine G_icmp_lt F zd_M_hash_38 (tgt := 105) rfl (fun h0 => ?_) (fun h0 => ?_)
      · have h := iP h h0
        have q1 := Option.some.inj h
        subst q1
        exact G_lv [2, 3, 4, 1, 0] rfl X105
      · have h := iN h h0
        refine G_aload_n F zd_M_hash_41 rfl (j := 2) rfl ?_
        refine G_iload_n F zd_M_hash_42 rfl (j := 3) rfl ?_
        refine G_iconst (v := (0 : Int32)) F zd_M_hash_43 (by decide) ?_
        refine G_iload_n F zd_M_hash_44 rfl (j := 4) rfl ?_
        refine G_ldc (v := (-1640531535 : Int32)) F aw_330 zd_M_hash_45 ?_
        refine G_iadd F zd_M_hash_47 ?_
        refine G_ldc (v := (-2048144777 : Int32)) F aw_429 zd_M_hash_48 ?_
        refine G_iadd F zd_M_hash_50 ?_
        obtain ⟨v8, hc51, h⟩ := bc1_s h
        refine G_calliV0 F (zk_M_lane l D cB cI cJ ma mb mz mh me v4 mf sz mc cp hi bg en tb ou mp fa i1 (0 : Int32) ((i2 + (-1640531535 : Int32)) + (-2048144777 : Int32)) v8 hc51) (rest := []) [0, 1, 2, 3, 4] rfl rfl (q0 := 0) rfl cv_M_150_M rfl rfl ⟨Nat.le_of_ble_eq_true rfl, Nat.le_of_ble_eq_true rfl⟩ hf0 rfl (Nat.le_of_ble_eq_true rfl) zd_M_hash_51 rfl ?_
        refine G_iconst (v := (1 : Int32)) F zd_M_hash_54 (by decide) ?_
        obtain ⟨v9, hc55, h⟩ := bc1_s h
        refine G_calliS0 F (zk_M_turn l D cB cI cJ v8 (1 : Int32) v9 hc55) (rest := []) [] rfl rfl cv_M_146_M rfl rfl ⟨Nat.le_of_ble_eq_true rfl, Nat.le_of_ble_eq_true rfl⟩ hf0 rfl (Nat.le_of_ble_eq_true rfl) zd_M_hash_55 rfl ?_
        refine G_aload_n F zd_M_hash_58 rfl (j := 2) rfl ?_
        refine G_iload_n F zd_M_hash_59 rfl (j := 3) rfl ?_
        refine G_iconst (v := (1 : Int32)) F zd_M_hash_60 (by decide) ?_
        refine G_iload_n F zd_M_hash_61 rfl (j := 4) rfl ?_
        refine G_ldc (v := (-2048144777 : Int32)) F aw_429 zd_M_hash_62 ?_
        refine G_iadd F zd_M_hash_64 ?_
        obtain ⟨v10, hc65, h⟩ := bc1_s h
        refine G_calliV0 F (zk_M_lane l D cB cI cJ ma mb mz mh me v4 mf sz mc cp hi bg en tb ou mp fa i1 (1 : Int32) (i2 + (-2048144777 : Int32)) v10 hc65) (rest := [.int v9]) [0, 1, 2, 3, 4] rfl rfl (q0 := 0) rfl cv_M_150_M rfl rfl ⟨Nat.le_of_ble_eq_true rfl, Nat.le_of_ble_eq_true rfl⟩ hf0 rfl (Nat.le_of_ble_eq_true rfl) zd_M_hash_65 rfl ?_
        refine G_bipush (v := (7 : Int32)) F zd_M_hash_68 (by decide) ?_
        obtain ⟨v11, hc70, h⟩ := bc1_s h
        refine G_calliS0 F (zk_M_turn l D cB cI cJ v10 (7 : Int32) v11 hc70) (rest := [.int v9]) [] rfl rfl cv_M_146_M rfl rfl ⟨Nat.le_of_ble_eq_true rfl, Nat.le_of_ble_eq_true rfl⟩ hf0 rfl (Nat.le_of_ble_eq_true rfl) zd_M_hash_70 rfl ?_
        refine G_iadd F zd_M_hash_73 ?_
        refine G_aload_n F zd_M_hash_74 rfl (j := 2) rfl ?_
        refine G_iload_n F zd_M_hash_75 rfl (j := 3) rfl ?_
        refine G_iconst (v := (2 : Int32)) F zd_M_hash_76 (by decide) ?_
        refine G_iload_n F zd_M_hash_77 rfl (j := 4) rfl ?_
        obtain ⟨v12, hc78, h⟩ := bc1_s h
        refine G_calliV0 F (zk_M_lane l D cB cI cJ ma mb mz mh me v4 mf sz mc cp hi bg en tb ou mp fa i1 (2 : Int32) i2 v12 hc78) (rest := [.int (v9 + v11)]) [0, 1, 2, 3, 4] rfl rfl (q0 := 0) rfl cv_M_150_M rfl rfl ⟨Nat.le_of_ble_eq_true rfl, Nat.le_of_ble_eq_true rfl⟩ hf0 rfl (Nat.le_of_ble_eq_true rfl) zd_M_hash_78 rfl ?_
        refine G_bipush (v := (12 : Int32)) F zd_M_hash_81 (by decide) ?_
        obtain ⟨v13, hc83, h⟩ := bc1_s h
        refine G_calliS0 F (zk_M_turn l D cB cI cJ v12 (12 : Int32) v13 hc83) (rest := [.int (v9 + v11)]) [] rfl rfl cv_M_146_M rfl rfl ⟨Nat.le_of_ble_eq_true rfl, Nat.le_of_ble_eq_true rfl⟩ hf0 rfl (Nat.le_of_ble_eq_true rfl) zd_M_hash_83 rfl ?_
        refine G_iadd F zd_M_hash_86 ?_
        refine G_aload_n F zd_M_hash_87 rfl (j := 2) rfl ?_
        refine G_iload_n F zd_M_hash_88 rfl (j := 3) rfl ?_
        refine G_iconst (v := (3 : Int32)) F zd_M_hash_89 (by decide) ?_
        refine G_iload_n F zd_M_hash_90 rfl (j := 4) rfl ?_
        refine G_ldc (v := (-1640531535 : Int32)) F aw_330 zd_M_hash_91 ?_
        refine G_isub F zd_M_hash_93 ?_
        obtain ⟨v14, hc94, h⟩ := bc1_s h
        refine G_calliV0 F (zk_M_lane l D cB cI cJ ma mb mz mh me v4 mf sz mc cp hi bg en tb ou mp fa i1 (3 : Int32) (i2 - (-1640531535 : Int32)) v14 hc94) (rest := [.int ((v9 + v11) + v13)]) [0, 1, 2, 3, 4] rfl rfl (q0 := 0) rfl cv_M_150_M rfl rfl ⟨Nat.le_of_ble_eq_true rfl, Nat.le_of_ble_eq_true rfl⟩ hf0 rfl (Nat.le_of_ble_eq_true rfl) zd_M_hash_94 rfl ?_
        refine G_bipush (v := (18 : Int32)) F zd_M_hash_97 (by decide) ?_
        obtain ⟨v15, hc99, h⟩ := bc1_s h
        refine G_calliS0 F (zk_M_turn l D cB cI cJ v14 (18 : Int32) v15 hc99) (rest := [.int ((v9 + v11) + v13)]) [] rfl rfl cv_M_146_M rfl rfl ⟨Nat.le_of_ble_eq_true rfl, Nat.le_of_ble_eq_true rfl⟩ hf0 rfl (Nat.le_of_ble_eq_true rfl) zd_M_hash_99 rfl ?_
        refine G_iadd F zd_M_hash_102 ?_
        obtain ⟨v16, ev16, h⟩ := bnd_s h
        refine G_topi ev16 ?_
        refine G_istore F zd_M_hash_103 (by decide) (L' := [(4, .int v16), (3, .int v5), (0, .ref ma), (1, .int i1), (2, .int i2)]) rfl ?_
        have q1 := Option.some.inj h
        subst q1
        exact G_lv [2, 3, 4, 1, 0] rfl X105
    · have h := iN h h0
      refine G_iconst (v := (0 : Int32)) F zd_M_hash_20 (by decide) ?_
      obtain ⟨q1, q2⟩ := inj2 h
      subst q1
      subst q2
      exact E 21 _ zd_M_hash_21
  have h := hj13
  refine G_if_ne F zd_M_hash_5 (tgt := 12) rfl (fun h0 => ?_) (fun h0 => ?_)
  · have h := iN h h0
    refine G_iconst (v := (0 : Int32)) F zd_M_hash_12 (by decide) ?_
    have q1 := Option.some.inj h
    subst q1
    exact G_lv [0, 1, 2] rfl X13
  · have h := iP h h0
    refine G_iconst (v := (1 : Int32)) F zd_M_hash_8 (by decide) ?_
    refine G_goto F zd_M_hash_9 (tgt := 13) rfl ?_
    have q1 := Option.some.inj h
    subst q1
    exact G_lv [0, 1, 2] rfl X13

