set_option maxHeartbeats 4000000 in
set_option maxRecDepth 100000 in
theorem zk_M_thrown (l : Launch) (D : va_G) (cB cI cJ : ClassId) (ma : Nat) (mb : Nat) (mz : Nat) (mh : Nat) (me : Nat) (th : Int32) (mf : Nat → Int32) (sz : Nat → Int32) (mc : Int32) (cp : Int32) (hi : Nat → Int32) (bg : Int32) (en : Int32) (tb : Nat → Int32) (ou : Int32) (mp : Int32) (fa : Int32) (r : Int32) (h : zf_M_thrown th = some r) : CoI l zy_M_thrown zw_M_thrown { frames := 0, cells := 0, slots := 0, locals := 0 } D cB cI cJ [.ref ma] [(ma, .inr (8, [.int th, .ref mb, .ref mz, .int mc, .int cp, .ref mh, .int bg, .int en, .ref me, .int ou, .int mp, .int fa])), (mb, .inl (cI, 600, .inl mf)), (mz, .inl (cI, 3, .inl sz)), (mh, .inl (cI, 224, .inl hi)), (me, .inl (cI, 32, .inl tb))] r [(ma, .inr (8, [.int th, .ref mb, .ref mz, .int mc, .int cp, .ref mh, .int bg, .int en, .ref me, .int ou, .int mp, .int fa])), (mb, .inl (cI, 600, .inl mf)), (mz, .inl (cI, 3, .inl sz)), (mh, .inl (cI, 224, .inl hi)), (me, .inl (cI, 32, .inl tb))] := by
  unfold zf_M_thrown at h
  refine CoI.ofG (cc := zc_M_thrown) (maxL := 1) (own := RX10) (by decide) rfl rfl rfl trivial (Nat.le_of_ble_eq_true rfl) (L0 := [(0, .ref ma)]) rfl (fun k F E => ?_)
  refine G_aload_n F zd_M_thrown_0 rfl (j := 0) rfl ?_
  refine G_get F fa_M_22_M (q := 0) zd_M_thrown_1 rfl rfl ?_
  have q1 := Option.some.inj h
  subst q1
  exact E 4 _ zd_M_thrown_4

set_option maxHeartbeats 4000000 in
set_option maxRecDepth 100000 in
theorem zk_M_fails (l : Launch) (D : va_G) (cB cI cJ : ClassId) (ma : Nat) (mb : Nat) (mz : Nat) (mh : Nat) (me : Nat) (th : Int32) (mf : Nat → Int32) (sz : Nat → Int32) (mc : Int32) (cp : Int32) (hi : Nat → Int32) (bg : Int32) (en : Int32) (tb : Nat → Int32) (ou : Int32) (mp : Int32) (fa : Int32) (i1 : Int32) (i2 : Int32) (r : Int32) (th' : Int32) (h : zf_M_fails i1 i2 = some (r, th')) : CoI l zy_M_fails zw_M_fails { frames := 0, cells := 0, slots := 0, locals := 0 } D cB cI cJ [.ref ma, .int i1, .int i2] [(ma, .inr (8, [.int th, .ref mb, .ref mz, .int mc, .int cp, .ref mh, .int bg, .int en, .ref me, .int ou, .int mp, .int fa])), (mb, .inl (cI, 600, .inl mf)), (mz, .inl (cI, 3, .inl sz)), (mh, .inl (cI, 224, .inl hi)), (me, .inl (cI, 32, .inl tb))] r [(ma, .inr (8, [.int th', .ref mb, .ref mz, .int mc, .int cp, .ref mh, .int bg, .int en, .ref me, .int ou, .int mp, .int fa])), (mb, .inl (cI, 600, .inl mf)), (mz, .inl (cI, 3, .inl sz)), (mh, .inl (cI, 224, .inl hi)), (me, .inl (cI, 32, .inl tb))] := by
  unfold zf_M_fails at h
  refine CoZ.ofG (cc := zc_M_fails) (maxL := 3) (own := RX10) (by decide) rfl rfl rfl trivial (Nat.le_of_ble_eq_true rfl) (L0 := [(0, .ref ma), (1, .int i1), (2, .int i2)]) rfl (fun k F E => ?_)
  refine G_aload_n F zd_M_fails_0 rfl (j := 0) rfl ?_
  refine G_iload_n F zd_M_fails_1 rfl (j := 1) rfl ?_
  obtain ⟨u1, hj18, h⟩ := bc1_s h
  have X18 : G D 3 k 0 0 18 [(0, .ref ma), (1, .int i1), (2, .int i2)] [.int u1, .ref ma] [(ma, .inr (8, [.int th, .ref mb, .ref mz, .int mc, .int cp, .ref mh, .int bg, .int en, .ref me, .int ou, .int mp, .int fa])), (mb, .inl (cI, 600, .inl mf)), (mz, .inl (cI, 3, .inl sz)), (mh, .inl (cI, 224, .inl hi)), (me, .inl (cI, 32, .inl tb))] := by
    refine G_put F fp_M_22_M (q := 0) zd_M_fails_18 rfl (Nat.le_of_ble_eq_true rfl) (ws' := [(ma, .inr (8, [.int u1, .ref mb, .ref mz, .int mc, .int cp, .ref mh, .int bg, .int en, .ref me, .int ou, .int mp, .int fa])), (mb, .inl (cI, 600, .inl mf)), (mz, .inl (cI, 3, .inl sz)), (mh, .inl (cI, 224, .inl hi)), (me, .inl (cI, 32, .inl tb))]) rfl ?_
    refine G_aload_n F zd_M_fails_21 rfl (j := 0) rfl ?_
    refine G_get F fa_M_22_M (q := 0) zd_M_fails_22 rfl rfl ?_
    refine G_if_le F zd_M_fails_25 (tgt := 32) rfl (fun h0 => ?_) (fun h0 => ?_)
    · have h := iP h h0
      refine G_iconst (v := (0 : Int32)) F zd_M_fails_32 (by decide) ?_
      obtain ⟨q1, q2⟩ := inj2 h
      subst q1
      subst q2
      exact E 33 _ zd_M_fails_33 (by decide)
    · have h := iN h h0
      refine G_iconst (v := (1 : Int32)) F zd_M_fails_28 (by decide) ?_
      refine G_goto F zd_M_fails_29 (tgt := 33) rfl ?_
      obtain ⟨q1, q2⟩ := inj2 h
      subst q1
      subst q2
      exact E 33 _ zd_M_fails_33 (by decide)
  have h := hj18
  refine G_if_eq F zd_M_fails_2 (tgt := 9) rfl (fun h0 => ?_) (fun h0 => ?_)
  · have h := iP h h0
    refine G_iload_n F zd_M_fails_9 rfl (j := 2) rfl ?_
    refine G_if_eq F zd_M_fails_10 (tgt := 17) rfl (fun h0 => ?_) (fun h0 => ?_)
    · have h := iP h h0
      refine G_iconst (v := (0 : Int32)) F zd_M_fails_17 (by decide) ?_
      have q1 := Option.some.inj h
      subst q1
      exact G_lv [0, 1, 2] rfl X18
    · have h := iN h h0
      refine G_iconst (v := (2 : Int32)) F zd_M_fails_13 (by decide) ?_
      refine G_goto F zd_M_fails_14 (tgt := 18) rfl ?_
      have q1 := Option.some.inj h
      subst q1
      exact G_lv [0, 1, 2] rfl X18
  · have h := iN h h0
    refine G_iconst (v := (1 : Int32)) F zd_M_fails_5 (by decide) ?_
    refine G_goto F zd_M_fails_6 (tgt := 18) rfl ?_
    have q1 := Option.some.inj h
    subst q1
    exact G_lv [0, 1, 2] rfl X18

set_option maxHeartbeats 4000000 in
set_option maxRecDepth 100000 in
theorem zk_M_isRow (l : Launch) (D : va_G) (cB cI cJ : ClassId) (i0 : Int32) (r : Int32) (h : zf_M_isRow i0 = some r) : CoI l zy_M_isRow zw_M_isRow { frames := 0, cells := 0, slots := 0, locals := 0 } D cB cI cJ [.int i0] [] r [] := by
  unfold zf_M_isRow at h
  refine CoZ.ofG (cc := zc_M_isRow) (maxL := 1) (own := RX10) (by decide) rfl rfl rfl trivial (Nat.le_of_ble_eq_true rfl) (L0 := [(0, .int i0)]) rfl (fun k F E => ?_)
  refine G_iload_n F zd_M_isRow_0 rfl (j := 0) rfl ?_
  refine G_if_lt F zd_M_isRow_1 (tgt := 13) rfl (fun h0 => ?_) (fun h0 => ?_)
  · have h := iP h h0
    refine G_iconst (v := (0 : Int32)) F zd_M_isRow_13 (by decide) ?_
    have q1 := Option.some.inj h
    subst q1
    exact E 14 _ zd_M_isRow_14 (by decide)
  · have h := iN h h0
    refine G_iload_n F zd_M_isRow_4 rfl (j := 0) rfl ?_
    refine G_iconst (v := (3 : Int32)) F zd_M_isRow_5 (by decide) ?_
    refine G_icmp_ge F zd_M_isRow_6 (tgt := 13) rfl (fun h0 => ?_) (fun h0 => ?_)
    · have h := iP h h0
      refine G_iconst (v := (0 : Int32)) F zd_M_isRow_13 (by decide) ?_
      have q1 := Option.some.inj h
      subst q1
      exact E 14 _ zd_M_isRow_14 (by decide)
    · have h := iN h h0
      refine G_iconst (v := (1 : Int32)) F zd_M_isRow_9 (by decide) ?_
      refine G_goto F zd_M_isRow_10 (tgt := 14) rfl ?_
      have q1 := Option.some.inj h
      subst q1
      exact E 14 _ zd_M_isRow_14 (by decide)

set_option maxHeartbeats 4000000 in
set_option maxRecDepth 100000 in
theorem zk_M_most (l : Launch) (D : va_G) (cB cI cJ : ClassId) (i0 : Int32) (r : Int32) (h : zf_M_most i0 = some r) : CoI l zy_M_most zw_M_most { frames := 0, cells := 0, slots := 0, locals := 0 } D cB cI cJ [.int i0] [] r [] := by
  unfold zf_M_most at h
  refine CoI.ofG (cc := zc_M_most) (maxL := 1) (own := RX10) (by decide) rfl rfl rfl trivial (Nat.le_of_ble_eq_true rfl) (L0 := [(0, .int i0)]) rfl (fun k F E => ?_)
  refine G_iload_n F zd_M_most_0 rfl (j := 0) rfl ?_
  refine G_if_ne F zd_M_most_1 (tgt := 10) rfl (fun h0 => ?_) (fun h0 => ?_)
  · have h := iN h h0
    refine G_iload_n F zd_M_most_10 rfl (j := 0) rfl ?_
    refine G_iconst (v := (1 : Int32)) F zd_M_most_11 (by decide) ?_
    refine G_icmp_ne F zd_M_most_12 (tgt := 21) rfl (fun h0 => ?_) (fun h0 => ?_)
    · have h := iN h h0
      refine G_bipush (v := (64 : Int32)) F zd_M_most_21 (by decide) ?_
      have q1 := Option.some.inj h
      subst q1
      exact E 23 _ zd_M_most_23
    · have h := iP h h0
      refine G_sipush (v := (200 : Int32)) F zd_M_most_15 (by decide) ?_
      refine G_goto F zd_M_most_18 (tgt := 23) rfl ?_
      have q1 := Option.some.inj h
      subst q1
      exact E 23 _ zd_M_most_23
  · have h := iP h h0
    refine G_sipush (v := (160 : Int32)) F zd_M_most_4 (by decide) ?_
    refine G_goto F zd_M_most_7 (tgt := 23) rfl ?_
    have q1 := Option.some.inj h
    subst q1
    exact E 23 _ zd_M_most_23

set_option maxHeartbeats 4000000 in
set_option maxRecDepth 100000 in
theorem zl_M_put_66 {k : GC} {l : Launch} {D : va_G} {cB cI cJ : ClassId} (F : GF k l { frames := 1, cells := 0, slots := 0, locals := 22 } zc_M_put 7 RX10 D cB cI cJ) (sz : Nat → Int32) (mc : Int32) (cp : Int32) (hi : Nat → Int32) (bg : Int32) (en : Int32) (tb : Nat → Int32) (ou : Int32) (mp : Int32) (fa : Int32) (i1 : Int32) (j2 : Int64) (i4 : Int32) (ma : Nat) (mb : Nat) (mz : Nat) (mh : Nat) (me : Nat) (u2 : Int32) (v6 : Int32) : ∀ (n : Nat) (v7 : Int32) (v8 : Nat → Int32) (w7 : Int32) (w8 : Nat → Int32), zf_M_put_L66 sz i1 j2 i4 n v7 v8 = some (w7, w8) → G D 7 k 0 0 111 [(0, .ref ma), (1, .int i1), (2, .long j2), (4, .int i4), (5, .int u2), (6, .int w7)] [] [(ma, .inr (8, [.int v6, .ref mb, .ref mz, .int mc, .int cp, .ref mh, .int bg, .int en, .ref me, .int ou, .int mp, .int fa])), (mb, .inl (cI, 600, .inl w8)), (mz, .inl (cI, 3, .inl sz)), (mh, .inl (cI, 224, .inl hi)), (me, .inl (cI, 32, .inl tb))] → G D 7 k 0 0 66 [(0, .ref ma), (1, .int i1), (2, .long j2), (4, .int i4), (5, .int u2), (6, .int v7)] [] [(ma, .inr (8, [.int v6, .ref mb, .ref mz, .int mc, .int cp, .ref mh, .int bg, .int en, .ref me, .int ou, .int mp, .int fa])), (mb, .inl (cI, 600, .inl v8)), (mz, .inl (cI, 3, .inl sz)), (mh, .inl (cI, 224, .inl hi)), (me, .inl (cI, 32, .inl tb))] := by
  intro n
  induction n with
  | zero =>
    intro v7 v8 w7 w8 h
    rw [zf_M_put_L66_0] at h
    cases h
  | succ n ih =>
    intro v7 v8 w7 w8 h hx
    have h := (zf_M_put_L66_s sz i1 j2 i4 n v7 v8).symm.trans h
    refine G_iload F zd_M_put_66 (j := 5) rfl ?_
    refine G_iload F zd_M_put_68 (j := 3) rfl ?_
    refine G_icmp_ge F zd_M_put_70 (tgt := 111) rfl (fun h0 => ?_) (fun h0 => ?_)
    · have h := iP h h0
      obtain ⟨q1, q2⟩ := inj2 h
      subst q1
      subst q2
      exact G_lv [0, 1, 2, 3, 4, 5] rfl hx
    · have h := iN h h0
      refine G_aload_n F zd_M_put_73 rfl (j := 0) rfl ?_
      refine G_get F fa_M_7_M (q := 0) zd_M_put_74 rfl rfl ?_
      refine G_sipush (v := (200 : Int32)) F zd_M_put_77 (by decide) ?_
      refine G_iload_n F zd_M_put_80 rfl (j := 1) rfl ?_
      refine G_imul F zd_M_put_81 ?_
      refine G_aload_n F zd_M_put_82 rfl (j := 0) rfl ?_
      refine G_get F fa_M_13_M (q := 0) zd_M_put_83 rfl rfl ?_
      refine G_iload_n F zd_M_put_86 rfl (j := 1) rfl ?_
      obtain ⟨h0, h⟩ := gd_s h
      refine G_iaload F zd_M_put_87 (q := 2) rfl h0 ?_
      refine G_iadd F zd_M_put_88 ?_
      refine G_iload F zd_M_put_89 (j := 5) rfl ?_
      refine G_iadd F zd_M_put_91 ?_
      refine G_lload_n F zd_M_put_92 rfl (j := 2) rfl ?_
      refine G_bipush (v := (8 : Int32)) F zd_M_put_93 (by decide) ?_
      refine G_iload F zd_M_put_95 (j := 5) rfl ?_
      refine G_imul F zd_M_put_97 ?_
      refine G_lshr F zd_M_put_98 ?_
      refine G_ldc2 (v := (255 : Int64)) F aw_319 zd_M_put_99 ?_
      refine G_land F zd_M_put_102 ?_
      refine G_l2i F zd_M_put_103 ?_
      obtain ⟨h0, h⟩ := gd_s h
      obtain ⟨v9, ev9, h⟩ := bnd_s h
      refine G_iastore F zd_M_put_104 (q := 1) rfl h0 ev9 (ws' := [(ma, .inr (8, [.int v6, .ref mb, .ref mz, .int mc, .int cp, .ref mh, .int bg, .int en, .ref me, .int ou, .int mp, .int fa])), (mb, .inl (cI, 600, .inl v9)), (mz, .inl (cI, 3, .inl sz)), (mh, .inl (cI, 224, .inl hi)), (me, .inl (cI, 32, .inl tb))]) rfl ?_
      obtain ⟨v10, ev10, h⟩ := bnd_s h
      refine G_iinc F zd_M_put_105 (j := 5) rfl (w := (1 : Int32)) (by decide) ev10 (by decide) (L' := [(6, .int v10), (0, .ref ma), (1, .int i1), (2, .long j2), (4, .int i4), (5, .int u2)]) rfl ?_
      refine G_goto F zd_M_put_108 (tgt := 66) rfl ?_
      exact G_lv [1, 2, 3, 4, 5, 0] rfl (ih _ _ _ _ h hx)
set_option maxHeartbeats 4000000 in
set_option maxRecDepth 100000 in
theorem zk_M_put (l : Launch) (D : va_G) (cB cI cJ : ClassId) (ma : Nat) (mb : Nat) (mz : Nat) (mh : Nat) (me : Nat) (th : Int32) (mf : Nat → Int32) (sz : Nat → Int32) (mc : Int32) (cp : Int32) (hi : Nat → Int32) (bg : Int32) (en : Int32) (tb : Nat → Int32) (ou : Int32) (mp : Int32) (fa : Int32) (i1 : Int32) (j2 : Int64) (i4 : Int32) (th' : Int32) (mf' : Nat → Int32) (sz' : Nat → Int32) (h : zf_M_put mf sz i1 j2 i4 = some (th', mf', sz')) : CoV l zy_M_put zw_M_put { frames := 1, cells := 0, slots := 0, locals := 22 } D cB cI cJ [.ref ma, .int i1, .long j2, .int i4] [(ma, .inr (8, [.int th, .ref mb, .ref mz, .int mc, .int cp, .ref mh, .int bg, .int en, .ref me, .int ou, .int mp, .int fa])), (mb, .inl (cI, 600, .inl mf)), (mz, .inl (cI, 3, .inl sz)), (mh, .inl (cI, 224, .inl hi)), (me, .inl (cI, 32, .inl tb))] [(ma, .inr (8, [.int th', .ref mb, .ref mz, .int mc, .int cp, .ref mh, .int bg, .int en, .ref me, .int ou, .int mp, .int fa])), (mb, .inl (cI, 600, .inl mf')), (mz, .inl (cI, 3, .inl sz')), (mh, .inl (cI, 224, .inl hi)), (me, .inl (cI, 32, .inl tb))] := by
  unfold zf_M_put at h
  refine CoV.ofG (cc := zc_M_put) (maxL := 7) (own := RX10) (by decide) rfl rfl rfl trivial (Nat.le_of_ble_eq_true rfl) (L0 := [(0, .ref ma), (1, .int i1), (2, .long j2), (4, .int i4)]) rfl (fun k F E => ?_)
  refine G_iload_n F zd_M_put_0 rfl (j := 1) rfl ?_
  obtain ⟨v1, hc1, h⟩ := bc1_s h
  refine G_calliS0 F (zk_M_isRow l D cB cI cJ i1 v1 hc1) (rest := []) [] rfl rfl cv_M_26_M rfl rfl ⟨Nat.le_of_ble_eq_true rfl, Nat.le_of_ble_eq_true rfl⟩ hf0 rfl (Nat.le_of_ble_eq_true rfl) zd_M_put_1 rfl ?_
  obtain ⟨u2, hj25, h⟩ := bc1_s h
  have X25 : G D 7 k 0 0 25 [(0, .ref ma), (1, .int i1), (2, .long j2), (4, .int i4)] [.int u2] [(ma, .inr (8, [.int th, .ref mb, .ref mz, .int mc, .int cp, .ref mh, .int bg, .int en, .ref me, .int ou, .int mp, .int fa])), (mb, .inl (cI, 600, .inl mf)), (mz, .inl (cI, 3, .inl sz)), (mh, .inl (cI, 224, .inl hi)), (me, .inl (cI, 32, .inl tb))] := by
    refine G_istore F zd_M_put_25 (by decide) (L' := [(5, .int u2), (0, .ref ma), (1, .int i1), (2, .long j2), (4, .int i4)]) rfl ?_
    refine G_aload_n F zd_M_put_27 rfl (j := 1) rfl ?_
    refine G_iload F zd_M_put_28 (j := 0) rfl ?_
    refine G_iload F zd_M_put_30 (j := 0) rfl ?_
    obtain ⟨u3, hj56, h⟩ := bc1_s h
    have X56 : G D 7 k 0 0 56 [(0, .ref ma), (1, .int i1), (2, .long j2), (4, .int i4), (5, .int u2)] [.int u3, .int u2, .ref ma] [(ma, .inr (8, [.int th, .ref mb, .ref mz, .int mc, .int cp, .ref mh, .int bg, .int en, .ref me, .int ou, .int mp, .int fa])), (mb, .inl (cI, 600, .inl mf)), (mz, .inl (cI, 3, .inl sz)), (mh, .inl (cI, 224, .inl hi)), (me, .inl (cI, 32, .inl tb))] := by
      obtain ⟨v5, v6, hc56, h⟩ := bc2_s h
      refine G_calliV F (zk_M_fails l D cB cI cJ ma mb mz mh me th mf sz mc cp hi bg en tb ou mp fa u2 u3 v5 v6 hc56) (rest := []) [0, 1, 2, 3, 4] rfl rfl rfl (ws' := [(ma, .inr (8, [.int v6, .ref mb, .ref mz, .int mc, .int cp, .ref mh, .int bg, .int en, .ref me, .int ou, .int mp, .int fa])), (mb, .inl (cI, 600, .inl mf)), (mz, .inl (cI, 3, .inl sz)), (mh, .inl (cI, 224, .inl hi)), (me, .inl (cI, 32, .inl tb))]) rfl (q0 := 0) rfl cv_M_34_M rfl rfl ⟨Nat.le_of_ble_eq_true rfl, Nat.le_of_ble_eq_true rfl⟩ hf0 rfl (Nat.le_of_ble_eq_true rfl) zd_M_put_56 rfl ?_
      refine G_if_eq F zd_M_put_59 (tgt := 63) rfl (fun h0 => ?_) (fun h0 => ?_)
      · have h := iP h h0
        refine G_iconst (v := (0 : Int32)) F zd_M_put_63 (by decide) ?_
        refine G_istore F zd_M_put_64 (by decide) (L' := [(6, .int (0 : Int32)), (0, .ref ma), (1, .int i1), (2, .long j2), (4, .int i4), (5, .int u2)]) rfl ?_
        obtain ⟨x11, x12, hl66, h⟩ := bc2_s h
        refine G_lv [1, 2, 3, 4, 5, 0] rfl (zl_M_put_66 F sz mc cp hi bg en tb ou mp fa i1 j2 i4 ma mb mz mh me u2 v6 1000 (0 : Int32) mf x11 x12 hl66 ?_)
        refine G_aload_n F zd_M_put_111 rfl (j := 0) rfl ?_
        refine G_get F fa_M_13_M (q := 0) zd_M_put_112 rfl rfl ?_
        refine G_iload_n F zd_M_put_115 rfl (j := 1) rfl ?_
        refine G_dup2 F zd_M_put_116 rfl rfl ?_
        obtain ⟨h0, h⟩ := gd_s h
        refine G_iaload F zd_M_put_117 (q := 2) rfl h0 ?_
        refine G_iload F zd_M_put_118 (j := 3) rfl ?_
        refine G_iadd F zd_M_put_120 ?_
        obtain ⟨h0, h⟩ := gd_s h
        obtain ⟨v13, ev13, h⟩ := bnd_s h
        refine G_iastore F zd_M_put_121 (q := 2) rfl h0 ev13 (ws' := [(ma, .inr (8, [.int v6, .ref mb, .ref mz, .int mc, .int cp, .ref mh, .int bg, .int en, .ref me, .int ou, .int mp, .int fa])), (mb, .inl (cI, 600, .inl x12)), (mz, .inl (cI, 3, .inl v13)), (mh, .inl (cI, 224, .inl hi)), (me, .inl (cI, 32, .inl tb))]) rfl ?_
        obtain ⟨q1, q2, q3⟩ := inj3 h
        subst q1
        subst q2
        subst q3
        exact E 122 _ zd_M_put_122
      · have h := iN h h0
        obtain ⟨q1, q2, q3⟩ := inj3 h
        subst q1
        subst q2
        subst q3
        exact E 62 _ zd_M_put_62
    have h := hj56
    refine G_if_ne F zd_M_put_32 (tgt := 55) rfl (fun h0 => ?_) (fun h0 => ?_)
    · have h := iN h h0
      refine G_iconst (v := (0 : Int32)) F zd_M_put_55 (by decide) ?_
      have q1 := Option.some.inj h
      subst q1
      exact G_lv [1, 2, 3, 4, 0] rfl X56
    · have h := iP h h0
      refine G_aload_n F zd_M_put_35 rfl (j := 1) rfl ?_
      refine G_get F fa_M_13_M (q := 0) zd_M_put_36 rfl rfl ?_
      refine G_iload_n F zd_M_put_39 rfl (j := 2) rfl ?_
      obtain ⟨h0, h⟩ := gd_s h
      refine G_iaload F zd_M_put_40 (q := 2) rfl h0 ?_
      refine G_iload F zd_M_put_41 (j := 4) rfl ?_
      refine G_iadd F zd_M_put_43 ?_
      refine G_iload_n F zd_M_put_44 rfl (j := 2) rfl ?_
      obtain ⟨v4, hc45, h⟩ := bc1_s h
      refine G_calliS0 F (zk_M_most l D cB cI cJ i1 v4 hc45) (rest := [.int ((sz (Int32.toNatClampNeg i1)) + i4), .int u2, .ref ma]) [] rfl rfl cv_M_30_M rfl rfl ⟨Nat.le_of_ble_eq_true rfl, Nat.le_of_ble_eq_true rfl⟩ hf0 rfl (Nat.le_of_ble_eq_true rfl) zd_M_put_45 rfl ?_
      refine G_icmp_le F zd_M_put_48 (tgt := 55) rfl (fun h0 => ?_) (fun h0 => ?_)
      · have h := iP h h0
        refine G_iconst (v := (0 : Int32)) F zd_M_put_55 (by decide) ?_
        have q1 := Option.some.inj h
        subst q1
        exact G_lv [1, 2, 3, 4, 0] rfl X56
      · have h := iN h h0
        refine G_iconst (v := (1 : Int32)) F zd_M_put_51 (by decide) ?_
        refine G_goto F zd_M_put_52 (tgt := 56) rfl ?_
        have q1 := Option.some.inj h
        subst q1
        exact G_lv [1, 2, 3, 4, 0] rfl X56
  have h := hj25
  refine G_if_eq F zd_M_put_4 (tgt := 20) rfl (fun h0 => ?_) (fun h0 => ?_)
  · have h := iP h h0
    refine G_iconst (v := (1 : Int32)) F zd_M_put_20 (by decide) ?_
    refine G_goto F zd_M_put_21 (tgt := 25) rfl ?_
    have q1 := Option.some.inj h
    subst q1
    exact G_lv [0, 1, 2, 3] rfl X25
  · have h := iN h h0
    refine G_iload F zd_M_put_7 (j := 3) rfl ?_
    refine G_iconst (v := (1 : Int32)) F zd_M_put_9 (by decide) ?_
    refine G_icmp_lt F zd_M_put_10 (tgt := 20) rfl (fun h0 => ?_) (fun h0 => ?_)
    · have h := iP h h0
      refine G_iconst (v := (1 : Int32)) F zd_M_put_20 (by decide) ?_
      refine G_goto F zd_M_put_21 (tgt := 25) rfl ?_
      have q1 := Option.some.inj h
      subst q1
      exact G_lv [0, 1, 2, 3] rfl X25
    · have h := iN h h0
      refine G_iload F zd_M_put_13 (j := 3) rfl ?_
      refine G_bipush (v := (8 : Int32)) F zd_M_put_15 (by decide) ?_
      refine G_icmp_le F zd_M_put_17 (tgt := 24) rfl (fun h0 => ?_) (fun h0 => ?_)
      · have h := iP h h0
        refine G_iconst (v := (0 : Int32)) F zd_M_put_24 (by decide) ?_
        have q1 := Option.some.inj h
        subst q1
        exact G_lv [0, 1, 2, 3] rfl X25
      · have h := iN h h0
        refine G_iconst (v := (1 : Int32)) F zd_M_put_20 (by decide) ?_
        refine G_goto F zd_M_put_21 (tgt := 25) rfl ?_
        have q1 := Option.some.inj h
        subst q1
        exact G_lv [0, 1, 2, 3] rfl X25

set_option maxHeartbeats 4000000 in
set_option maxRecDepth 100000 in
theorem zk_M_empty (l : Launch) (D : va_G) (cB cI cJ : ClassId) (ma : Nat) (mb : Nat) (mz : Nat) (mh : Nat) (me : Nat) (th : Int32) (mf : Nat → Int32) (sz : Nat → Int32) (mc : Int32) (cp : Int32) (hi : Nat → Int32) (bg : Int32) (en : Int32) (tb : Nat → Int32) (ou : Int32) (mp : Int32) (fa : Int32) (i1 : Int32) (r : Int32) (th' : Int32) (sz' : Nat → Int32) (h : zf_M_empty sz i1 = some (r, th', sz')) : CoI l zy_M_empty zw_M_empty { frames := 1, cells := 0, slots := 0, locals := 22 } D cB cI cJ [.ref ma, .int i1] [(ma, .inr (8, [.int th, .ref mb, .ref mz, .int mc, .int cp, .ref mh, .int bg, .int en, .ref me, .int ou, .int mp, .int fa])), (mb, .inl (cI, 600, .inl mf)), (mz, .inl (cI, 3, .inl sz)), (mh, .inl (cI, 224, .inl hi)), (me, .inl (cI, 32, .inl tb))] r [(ma, .inr (8, [.int th', .ref mb, .ref mz, .int mc, .int cp, .ref mh, .int bg, .int en, .ref me, .int ou, .int mp, .int fa])), (mb, .inl (cI, 600, .inl mf)), (mz, .inl (cI, 3, .inl sz')), (mh, .inl (cI, 224, .inl hi)), (me, .inl (cI, 32, .inl tb))] := by
  unfold zf_M_empty at h
  refine CoI.ofG (cc := zc_M_empty) (maxL := 3) (own := RX10) (by decide) rfl rfl rfl trivial (Nat.le_of_ble_eq_true rfl) (L0 := [(0, .ref ma), (1, .int i1)]) rfl (fun k F E => ?_)
  refine G_aload_n F zd_M_empty_0 rfl (j := 0) rfl ?_
  refine G_iload_n F zd_M_empty_1 rfl (j := 1) rfl ?_
  obtain ⟨v1, hc2, h⟩ := bc1_s h
  refine G_calliS0 F (zk_M_isRow l D cB cI cJ i1 v1 hc2) (rest := [.ref ma]) [] rfl rfl cv_M_26_M rfl rfl ⟨Nat.le_of_ble_eq_true rfl, Nat.le_of_ble_eq_true rfl⟩ hf0 rfl (Nat.le_of_ble_eq_true rfl) zd_M_empty_2 rfl ?_
  obtain ⟨u2, hj13, h⟩ := bc1_s h
  have X13 : G D 3 k 0 0 13 [(0, .ref ma), (1, .int i1)] [.int u2, .ref ma] [(ma, .inr (8, [.int th, .ref mb, .ref mz, .int mc, .int cp, .ref mh, .int bg, .int en, .ref me, .int ou, .int mp, .int fa])), (mb, .inl (cI, 600, .inl mf)), (mz, .inl (cI, 3, .inl sz)), (mh, .inl (cI, 224, .inl hi)), (me, .inl (cI, 32, .inl tb))] := by
    refine G_iconst (v := (0 : Int32)) F zd_M_empty_13 (by decide) ?_
    obtain ⟨v3, v4, hc14, h⟩ := bc2_s h
    refine G_calliV F (zk_M_fails l D cB cI cJ ma mb mz mh me th mf sz mc cp hi bg en tb ou mp fa u2 (0 : Int32) v3 v4 hc14) (rest := []) [0, 1, 2, 3, 4] rfl rfl rfl (ws' := [(ma, .inr (8, [.int v4, .ref mb, .ref mz, .int mc, .int cp, .ref mh, .int bg, .int en, .ref me, .int ou, .int mp, .int fa])), (mb, .inl (cI, 600, .inl mf)), (mz, .inl (cI, 3, .inl sz)), (mh, .inl (cI, 224, .inl hi)), (me, .inl (cI, 32, .inl tb))]) rfl (q0 := 0) rfl cv_M_34_M rfl rfl ⟨Nat.le_of_ble_eq_true rfl, Nat.le_of_ble_eq_true rfl⟩ hf0 rfl (Nat.le_of_ble_eq_true rfl) zd_M_empty_14 rfl ?_
    refine G_if_eq F zd_M_empty_17 (tgt := 22) rfl (fun h0 => ?_) (fun h0 => ?_)
    · have h := iP h h0
      refine G_aload_n F zd_M_empty_22 rfl (j := 0) rfl ?_
      refine G_get F fa_M_13_M (q := 0) zd_M_empty_23 rfl rfl ?_
      refine G_iload_n F zd_M_empty_26 rfl (j := 1) rfl ?_
      obtain ⟨h0, h⟩ := gd_s h
      refine G_iaload F zd_M_empty_27 (q := 2) rfl h0 ?_
      obtain ⟨v5, ev5, h⟩ := bnd_s h
      refine G_topi ev5 ?_
      refine G_istore_n F zd_M_empty_28 rfl (by decide) (L' := [(2, .int v5), (0, .ref ma), (1, .int i1)]) rfl ?_
      refine G_aload_n F zd_M_empty_29 rfl (j := 1) rfl ?_
      refine G_get F fa_M_13_M (q := 0) zd_M_empty_30 rfl rfl ?_
      refine G_iload_n F zd_M_empty_33 rfl (j := 2) rfl ?_
      refine G_iconst (v := (0 : Int32)) F zd_M_empty_34 (by decide) ?_
      obtain ⟨h0, h⟩ := gd_s h
      obtain ⟨v6, ev6, h⟩ := bnd_s h
      refine G_iastore F zd_M_empty_35 (q := 2) rfl h0 ev6 (ws' := [(ma, .inr (8, [.int v4, .ref mb, .ref mz, .int mc, .int cp, .ref mh, .int bg, .int en, .ref me, .int ou, .int mp, .int fa])), (mb, .inl (cI, 600, .inl mf)), (mz, .inl (cI, 3, .inl v6)), (mh, .inl (cI, 224, .inl hi)), (me, .inl (cI, 32, .inl tb))]) rfl ?_
      refine G_iload_n F zd_M_empty_36 rfl (j := 0) rfl ?_
      obtain ⟨q1, q2, q3⟩ := inj3 h
      subst q1
      subst q2
      subst q3
      exact E 37 _ zd_M_empty_37
    · have h := iN h h0
      refine G_iconst (v := (0 : Int32)) F zd_M_empty_20 (by decide) ?_
      obtain ⟨q1, q2, q3⟩ := inj3 h
      subst q1
      subst q2
      subst q3
      exact E 21 _ zd_M_empty_21
  have h := hj13
  refine G_if_ne F zd_M_empty_5 (tgt := 12) rfl (fun h0 => ?_) (fun h0 => ?_)
  · have h := iN h h0
    refine G_iconst (v := (0 : Int32)) F zd_M_empty_12 (by decide) ?_
    have q1 := Option.some.inj h
    subst q1
    exact G_lv [0, 1] rfl X13
  · have h := iP h h0
    refine G_iconst (v := (1 : Int32)) F zd_M_empty_8 (by decide) ?_
    refine G_goto F zd_M_empty_9 (tgt := 13) rfl ?_
    have q1 := Option.some.inj h
    subst q1
    exact G_lv [0, 1] rfl X13

set_option maxHeartbeats 4000000 in
set_option maxRecDepth 100000 in
theorem zk_M_size (l : Launch) (D : va_G) (cB cI cJ : ClassId) (ma : Nat) (mb : Nat) (mz : Nat) (mh : Nat) (me : Nat) (th : Int32) (mf : Nat → Int32) (sz : Nat → Int32) (mc : Int32) (cp : Int32) (hi : Nat → Int32) (bg : Int32) (en : Int32) (tb : Nat → Int32) (ou : Int32) (mp : Int32) (fa : Int32) (i1 : Int32) (r : Int32) (th' : Int32) (h : zf_M_size sz i1 = some (r, th')) : CoI l zy_M_size zw_M_size { frames := 1, cells := 0, slots := 0, locals := 22 } D cB cI cJ [.ref ma, .int i1] [(ma, .inr (8, [.int th, .ref mb, .ref mz, .int mc, .int cp, .ref mh, .int bg, .int en, .ref me, .int ou, .int mp, .int fa])), (mb, .inl (cI, 600, .inl mf)), (mz, .inl (cI, 3, .inl sz)), (mh, .inl (cI, 224, .inl hi)), (me, .inl (cI, 32, .inl tb))] r [(ma, .inr (8, [.int th', .ref mb, .ref mz, .int mc, .int cp, .ref mh, .int bg, .int en, .ref me, .int ou, .int mp, .int fa])), (mb, .inl (cI, 600, .inl mf)), (mz, .inl (cI, 3, .inl sz)), (mh, .inl (cI, 224, .inl hi)), (me, .inl (cI, 32, .inl tb))] := by
  unfold zf_M_size at h
  refine CoI.ofG (cc := zc_M_size) (maxL := 2) (own := RX10) (by decide) rfl rfl rfl trivial (Nat.le_of_ble_eq_true rfl) (L0 := [(0, .ref ma), (1, .int i1)]) rfl (fun k F E => ?_)
  refine G_aload_n F zd_M_size_0 rfl (j := 0) rfl ?_
  refine G_iload_n F zd_M_size_1 rfl (j := 1) rfl ?_
  obtain ⟨v1, hc2, h⟩ := bc1_s h
  refine G_calliS0 F (zk_M_isRow l D cB cI cJ i1 v1 hc2) (rest := [.ref ma]) [] rfl rfl cv_M_26_M rfl rfl ⟨Nat.le_of_ble_eq_true rfl, Nat.le_of_ble_eq_true rfl⟩ hf0 rfl (Nat.le_of_ble_eq_true rfl) zd_M_size_2 rfl ?_
  obtain ⟨u2, hj13, h⟩ := bc1_s h
  have X13 : G D 2 k 0 0 13 [(0, .ref ma), (1, .int i1)] [.int u2, .ref ma] [(ma, .inr (8, [.int th, .ref mb, .ref mz, .int mc, .int cp, .ref mh, .int bg, .int en, .ref me, .int ou, .int mp, .int fa])), (mb, .inl (cI, 600, .inl mf)), (mz, .inl (cI, 3, .inl sz)), (mh, .inl (cI, 224, .inl hi)), (me, .inl (cI, 32, .inl tb))] := by
    refine G_iconst (v := (0 : Int32)) F zd_M_size_13 (by decide) ?_
    obtain ⟨v3, v4, hc14, h⟩ := bc2_s h
    refine G_calliV F (zk_M_fails l D cB cI cJ ma mb mz mh me th mf sz mc cp hi bg en tb ou mp fa u2 (0 : Int32) v3 v4 hc14) (rest := []) [0, 1, 2, 3, 4] rfl rfl rfl (ws' := [(ma, .inr (8, [.int v4, .ref mb, .ref mz, .int mc, .int cp, .ref mh, .int bg, .int en, .ref me, .int ou, .int mp, .int fa])), (mb, .inl (cI, 600, .inl mf)), (mz, .inl (cI, 3, .inl sz)), (mh, .inl (cI, 224, .inl hi)), (me, .inl (cI, 32, .inl tb))]) rfl (q0 := 0) rfl cv_M_34_M rfl rfl ⟨Nat.le_of_ble_eq_true rfl, Nat.le_of_ble_eq_true rfl⟩ hf0 rfl (Nat.le_of_ble_eq_true rfl) zd_M_size_14 rfl ?_
    refine G_if_eq F zd_M_size_17 (tgt := 24) rfl (fun h0 => ?_) (fun h0 => ?_)
    · have h := iP h h0
      refine G_aload_n F zd_M_size_24 rfl (j := 0) rfl ?_
      refine G_get F fa_M_13_M (q := 0) zd_M_size_25 rfl rfl ?_
      refine G_iload_n F zd_M_size_28 rfl (j := 1) rfl ?_
      obtain ⟨h0, h⟩ := gd_s h
      refine G_iaload F zd_M_size_29 (q := 2) rfl h0 ?_
      obtain ⟨q1, q2⟩ := inj2 h
      subst q1
      subst q2
      exact E 30 _ zd_M_size_30
    · have h := iN h h0
      refine G_iconst (v := (0 : Int32)) F zd_M_size_20 (by decide) ?_
      refine G_goto F zd_M_size_21 (tgt := 30) rfl ?_
      obtain ⟨q1, q2⟩ := inj2 h
      subst q1
      subst q2
      exact E 30 _ zd_M_size_30
  have h := hj13
  refine G_if_ne F zd_M_size_5 (tgt := 12) rfl (fun h0 => ?_) (fun h0 => ?_)
  · have h := iN h h0
    refine G_iconst (v := (0 : Int32)) F zd_M_size_12 (by decide) ?_
    have q1 := Option.some.inj h
    subst q1
    exact G_lv [0, 1] rfl X13
  · have h := iP h h0
    refine G_iconst (v := (1 : Int32)) F zd_M_size_8 (by decide) ?_
    refine G_goto F zd_M_size_9 (tgt := 13) rfl ?_
    have q1 := Option.some.inj h
    subst q1
    exact G_lv [0, 1] rfl X13

set_option maxHeartbeats 4000000 in
set_option maxRecDepth 100000 in
theorem zk_M_get (l : Launch) (D : va_G) (cB cI cJ : ClassId) (ma : Nat) (mb : Nat) (mz : Nat) (mh : Nat) (me : Nat) (th : Int32) (mf : Nat → Int32) (sz : Nat → Int32) (mc : Int32) (cp : Int32) (hi : Nat → Int32) (bg : Int32) (en : Int32) (tb : Nat → Int32) (ou : Int32) (mp : Int32) (fa : Int32) (i1 : Int32) (i2 : Int32) (r : Int32) (th' : Int32) (h : zf_M_get mf sz i1 i2 = some (r, th')) : CoI l zy_M_get zw_M_get { frames := 1, cells := 0, slots := 0, locals := 22 } D cB cI cJ [.ref ma, .int i1, .int i2] [(ma, .inr (8, [.int th, .ref mb, .ref mz, .int mc, .int cp, .ref mh, .int bg, .int en, .ref me, .int ou, .int mp, .int fa])), (mb, .inl (cI, 600, .inl mf)), (mz, .inl (cI, 3, .inl sz)), (mh, .inl (cI, 224, .inl hi)), (me, .inl (cI, 32, .inl tb))] r [(ma, .inr (8, [.int th', .ref mb, .ref mz, .int mc, .int cp, .ref mh, .int bg, .int en, .ref me, .int ou, .int mp, .int fa])), (mb, .inl (cI, 600, .inl mf)), (mz, .inl (cI, 3, .inl sz)), (mh, .inl (cI, 224, .inl hi)), (me, .inl (cI, 32, .inl tb))] := by
  unfold zf_M_get at h
  refine CoI.ofG (cc := zc_M_get) (maxL := 4) (own := RX10) (by decide) rfl rfl rfl trivial (Nat.le_of_ble_eq_true rfl) (L0 := [(0, .ref ma), (1, .int i1), (2, .int i2)]) rfl (fun k F E => ?_)
  refine G_iload_n F zd_M_get_0 rfl (j := 1) rfl ?_
  obtain ⟨v1, hc1, h⟩ := bc1_s h
  refine G_calliS0 F (zk_M_isRow l D cB cI cJ i1 v1 hc1) (rest := []) [] rfl rfl cv_M_26_M rfl rfl ⟨Nat.le_of_ble_eq_true rfl, Nat.le_of_ble_eq_true rfl⟩ hf0 rfl (Nat.le_of_ble_eq_true rfl) zd_M_get_1 rfl ?_
  obtain ⟨u2, hj12, h⟩ := bc1_s h
  have X12 : G D 4 k 0 0 12 [(0, .ref ma), (1, .int i1), (2, .int i2)] [.int u2] [(ma, .inr (8, [.int th, .ref mb, .ref mz, .int mc, .int cp, .ref mh, .int bg, .int en, .ref me, .int ou, .int mp, .int fa])), (mb, .inl (cI, 600, .inl mf)), (mz, .inl (cI, 3, .inl sz)), (mh, .inl (cI, 224, .inl hi)), (me, .inl (cI, 32, .inl tb))] := by
    refine G_istore_n F zd_M_get_12 rfl (by decide) (L' := [(3, .int u2), (0, .ref ma), (1, .int i1), (2, .int i2)]) rfl ?_
    refine G_aload_n F zd_M_get_13 rfl (j := 1) rfl ?_
    refine G_iload_n F zd_M_get_14 rfl (j := 0) rfl ?_
    refine G_iload_n F zd_M_get_15 rfl (j := 0) rfl ?_
    obtain ⟨u3, hj38, h⟩ := bc1_s h
    have X38 : G D 4 k 0 0 38 [(0, .ref ma), (1, .int i1), (2, .int i2), (3, .int u2)] [.int u3, .int u2, .ref ma] [(ma, .inr (8, [.int th, .ref mb, .ref mz, .int mc, .int cp, .ref mh, .int bg, .int en, .ref me, .int ou, .int mp, .int fa])), (mb, .inl (cI, 600, .inl mf)), (mz, .inl (cI, 3, .inl sz)), (mh, .inl (cI, 224, .inl hi)), (me, .inl (cI, 32, .inl tb))] := by
      obtain ⟨v4, v5, hc38, h⟩ := bc2_s h
      refine G_calliV F (zk_M_fails l D cB cI cJ ma mb mz mh me th mf sz mc cp hi bg en tb ou mp fa u2 u3 v4 v5 hc38) (rest := []) [0, 1, 2, 3, 4] rfl rfl rfl (ws' := [(ma, .inr (8, [.int v5, .ref mb, .ref mz, .int mc, .int cp, .ref mh, .int bg, .int en, .ref me, .int ou, .int mp, .int fa])), (mb, .inl (cI, 600, .inl mf)), (mz, .inl (cI, 3, .inl sz)), (mh, .inl (cI, 224, .inl hi)), (me, .inl (cI, 32, .inl tb))]) rfl (q0 := 0) rfl cv_M_34_M rfl rfl ⟨Nat.le_of_ble_eq_true rfl, Nat.le_of_ble_eq_true rfl⟩ hf0 rfl (Nat.le_of_ble_eq_true rfl) zd_M_get_38 rfl ?_
      refine G_if_eq F zd_M_get_41 (tgt := 48) rfl (fun h0 => ?_) (fun h0 => ?_)
      · have h := iP h h0
        refine G_aload_n F zd_M_get_48 rfl (j := 0) rfl ?_
        refine G_get F fa_M_7_M (q := 0) zd_M_get_49 rfl rfl ?_
        refine G_sipush (v := (200 : Int32)) F zd_M_get_52 (by decide) ?_
        refine G_iload_n F zd_M_get_55 rfl (j := 1) rfl ?_
        refine G_imul F zd_M_get_56 ?_
        refine G_iload_n F zd_M_get_57 rfl (j := 2) rfl ?_
        refine G_iadd F zd_M_get_58 ?_
        obtain ⟨h0, h⟩ := gd_s h
        refine G_iaload F zd_M_get_59 (q := 1) rfl h0 ?_
        obtain ⟨q1, q2⟩ := inj2 h
        subst q1
        subst q2
        exact E 60 _ zd_M_get_60
      · have h := iN h h0
        refine G_iconst (v := (0 : Int32)) F zd_M_get_44 (by decide) ?_
        refine G_goto F zd_M_get_45 (tgt := 60) rfl ?_
        obtain ⟨q1, q2⟩ := inj2 h
        subst q1
        subst q2
        exact E 60 _ zd_M_get_60
    have h := hj38
    refine G_if_ne F zd_M_get_16 (tgt := 37) rfl (fun h0 => ?_) (fun h0 => ?_)
    · have h := iN h h0
      refine G_iconst (v := (0 : Int32)) F zd_M_get_37 (by decide) ?_
      have q1 := Option.some.inj h
      subst q1
      exact G_lv [1, 2, 3, 0] rfl X38
    · have h := iP h h0
      refine G_iload_n F zd_M_get_19 rfl (j := 3) rfl ?_
      refine G_if_lt F zd_M_get_20 (tgt := 33) rfl (fun h0 => ?_) (fun h0 => ?_)
      · have h := iP h h0
        refine G_iconst (v := (1 : Int32)) F zd_M_get_33 (by decide) ?_
        refine G_goto F zd_M_get_34 (tgt := 38) rfl ?_
        have q1 := Option.some.inj h
        subst q1
        exact G_lv [1, 2, 3, 0] rfl X38
      · have h := iN h h0
        refine G_iload_n F zd_M_get_23 rfl (j := 3) rfl ?_
        refine G_aload_n F zd_M_get_24 rfl (j := 1) rfl ?_
        refine G_get F fa_M_13_M (q := 0) zd_M_get_25 rfl rfl ?_
        refine G_iload_n F zd_M_get_28 rfl (j := 2) rfl ?_
        obtain ⟨h0, h⟩ := gd_s h
        refine G_iaload F zd_M_get_29 (q := 2) rfl h0 ?_
        refine G_icmp_lt F zd_M_get_30 (tgt := 37) rfl (fun h0 => ?_) (fun h0 => ?_)
        · have h := iP h h0
          refine G_iconst (v := (0 : Int32)) F zd_M_get_37 (by decide) ?_
          have q1 := Option.some.inj h
          subst q1
          exact G_lv [1, 2, 3, 0] rfl X38
        · have h := iN h h0
          refine G_iconst (v := (1 : Int32)) F zd_M_get_33 (by decide) ?_
          refine G_goto F zd_M_get_34 (tgt := 38) rfl ?_
          have q1 := Option.some.inj h
          subst q1
          exact G_lv [1, 2, 3, 0] rfl X38
  have h := hj12
  refine G_if_ne F zd_M_get_4 (tgt := 11) rfl (fun h0 => ?_) (fun h0 => ?_)
  · have h := iN h h0
    refine G_iconst (v := (0 : Int32)) F zd_M_get_11 (by decide) ?_
    have q1 := Option.some.inj h
    subst q1
    exact G_lv [0, 1, 2] rfl X12
  · have h := iP h h0
    refine G_iconst (v := (1 : Int32)) F zd_M_get_7 (by decide) ?_
    refine G_goto F zd_M_get_8 (tgt := 12) rfl ?_
    have q1 := Option.some.inj h
    subst q1
    exact G_lv [0, 1, 2] rfl X12

set_option maxHeartbeats 4000000 in
set_option maxRecDepth 100000 in
theorem zk_M_found (l : Launch) (D : va_G) (cB cI cJ : ClassId) (ma : Nat) (mb : Nat) (mz : Nat) (mh : Nat) (me : Nat) (th : Int32) (mf : Nat → Int32) (sz : Nat → Int32) (mc : Int32) (cp : Int32) (hi : Nat → Int32) (bg : Int32) (en : Int32) (tb : Nat → Int32) (ou : Int32) (mp : Int32) (fa : Int32) (i1 : Int32) (r : Int32) (th' : Int32) (h : zf_M_found mc cp i1 = some (r, th')) : CoI l zy_M_found zw_M_found { frames := 1, cells := 0, slots := 0, locals := 22 } D cB cI cJ [.ref ma, .int i1] [(ma, .inr (8, [.int th, .ref mb, .ref mz, .int mc, .int cp, .ref mh, .int bg, .int en, .ref me, .int ou, .int mp, .int fa])), (mb, .inl (cI, 600, .inl mf)), (mz, .inl (cI, 3, .inl sz)), (mh, .inl (cI, 224, .inl hi)), (me, .inl (cI, 32, .inl tb))] r [(ma, .inr (8, [.int th', .ref mb, .ref mz, .int mc, .int cp, .ref mh, .int bg, .int en, .ref me, .int ou, .int mp, .int fa])), (mb, .inl (cI, 600, .inl mf)), (mz, .inl (cI, 3, .inl sz)), (mh, .inl (cI, 224, .inl hi)), (me, .inl (cI, 32, .inl tb))] := by
  unfold zf_M_found at h
  refine CoI.ofG (cc := zc_M_found) (maxL := 2) (own := RX10) (by decide) rfl rfl rfl trivial (Nat.le_of_ble_eq_true rfl) (L0 := [(0, .ref ma), (1, .int i1)]) rfl (fun k F E => ?_)
  refine G_aload_n F zd_M_found_0 rfl (j := 0) rfl ?_
  refine G_iload_n F zd_M_found_1 rfl (j := 1) rfl ?_
  obtain ⟨u1, hj15, h⟩ := bc1_s h
  have X15 : G D 2 k 0 0 15 [(0, .ref ma), (1, .int i1)] [.int u1, .ref ma] [(ma, .inr (8, [.int th, .ref mb, .ref mz, .int mc, .int cp, .ref mh, .int bg, .int en, .ref me, .int ou, .int mp, .int fa])), (mb, .inl (cI, 600, .inl mf)), (mz, .inl (cI, 3, .inl sz)), (mh, .inl (cI, 224, .inl hi)), (me, .inl (cI, 32, .inl tb))] := by
    refine G_iconst (v := (0 : Int32)) F zd_M_found_15 (by decide) ?_
    obtain ⟨v2, v3, hc16, h⟩ := bc2_s h
    refine G_calliV F (zk_M_fails l D cB cI cJ ma mb mz mh me th mf sz mc cp hi bg en tb ou mp fa u1 (0 : Int32) v2 v3 hc16) (rest := []) [0, 1, 2, 3, 4] rfl rfl rfl (ws' := [(ma, .inr (8, [.int v3, .ref mb, .ref mz, .int mc, .int cp, .ref mh, .int bg, .int en, .ref me, .int ou, .int mp, .int fa])), (mb, .inl (cI, 600, .inl mf)), (mz, .inl (cI, 3, .inl sz)), (mh, .inl (cI, 224, .inl hi)), (me, .inl (cI, 32, .inl tb))]) rfl (q0 := 0) rfl cv_M_34_M rfl rfl ⟨Nat.le_of_ble_eq_true rfl, Nat.le_of_ble_eq_true rfl⟩ hf0 rfl (Nat.le_of_ble_eq_true rfl) zd_M_found_16 rfl ?_
    refine G_if_eq F zd_M_found_19 (tgt := 26) rfl (fun h0 => ?_) (fun h0 => ?_)
    · have h := iP h h0
      refine G_iload_n F zd_M_found_26 rfl (j := 1) rfl ?_
      refine G_if_ne F zd_M_found_27 (tgt := 37) rfl (fun h0 => ?_) (fun h0 => ?_)
      · have h := iN h h0
        refine G_aload_n F zd_M_found_37 rfl (j := 0) rfl ?_
        refine G_get F fa_M_43_M (q := 0) zd_M_found_38 rfl rfl ?_
        obtain ⟨q1, q2⟩ := inj2 h
        subst q1
        subst q2
        exact E 41 _ zd_M_found_41
      · have h := iP h h0
        refine G_aload_n F zd_M_found_30 rfl (j := 0) rfl ?_
        refine G_get F fa_M_40_M (q := 0) zd_M_found_31 rfl rfl ?_
        refine G_goto F zd_M_found_34 (tgt := 41) rfl ?_
        obtain ⟨q1, q2⟩ := inj2 h
        subst q1
        subst q2
        exact E 41 _ zd_M_found_41
    · have h := iN h h0
      refine G_iconst (v := (0 : Int32)) F zd_M_found_22 (by decide) ?_
      refine G_goto F zd_M_found_23 (tgt := 41) rfl ?_
      obtain ⟨q1, q2⟩ := inj2 h
      subst q1
      subst q2
      exact E 41 _ zd_M_found_41
  have h := hj15
  refine G_if_eq F zd_M_found_2 (tgt := 14) rfl (fun h0 => ?_) (fun h0 => ?_)
  · have h := iP h h0
    refine G_iconst (v := (0 : Int32)) F zd_M_found_14 (by decide) ?_
    have q1 := Option.some.inj h
    subst q1
    exact G_lv [0, 1] rfl X15
  · have h := iN h h0
    refine G_iload_n F zd_M_found_5 rfl (j := 1) rfl ?_
    refine G_iconst (v := (1 : Int32)) F zd_M_found_6 (by decide) ?_
    refine G_icmp_eq F zd_M_found_7 (tgt := 14) rfl (fun h0 => ?_) (fun h0 => ?_)
    · have h := iP h h0
      refine G_iconst (v := (0 : Int32)) F zd_M_found_14 (by decide) ?_
      have q1 := Option.some.inj h
      subst q1
      exact G_lv [0, 1] rfl X15
    · have h := iN h h0
      refine G_iconst (v := (1 : Int32)) F zd_M_found_10 (by decide) ?_
      refine G_goto F zd_M_found_11 (tgt := 15) rfl ?_
      have q1 := Option.some.inj h
      subst q1
      exact G_lv [0, 1] rfl X15

set_option maxHeartbeats 4000000 in
set_option maxRecDepth 100000 in
theorem zk_M_four (l : Launch) (D : va_G) (cB cI cJ : ClassId) (i0 : Int32) (i1 : Int32) (i2 : Int32) (i3 : Int32) (r : Int32) (h : zf_M_four i0 i1 i2 i3 = some r) : CoI l zy_M_four zw_M_four { frames := 0, cells := 0, slots := 0, locals := 0 } D cB cI cJ [.int i0, .int i1, .int i2, .int i3] [] r [] := by
  unfold zf_M_four at h
  refine CoI.ofG (cc := zc_M_four) (maxL := 4) (own := RX10) (by decide) rfl rfl rfl trivial (Nat.le_of_ble_eq_true rfl) (L0 := [(0, .int i0), (1, .int i1), (2, .int i2), (3, .int i3)]) rfl (fun k F E => ?_)
  refine G_iload_n F zd_M_four_0 rfl (j := 0) rfl ?_
  refine G_iload_n F zd_M_four_1 rfl (j := 1) rfl ?_
  refine G_bipush (v := (8 : Int32)) F zd_M_four_2 (by decide) ?_
  refine G_ishl F zd_M_four_4 ?_
  refine G_ior F zd_M_four_5 ?_
  refine G_iload_n F zd_M_four_6 rfl (j := 2) rfl ?_
  refine G_bipush (v := (16 : Int32)) F zd_M_four_7 (by decide) ?_
  refine G_ishl F zd_M_four_9 ?_
  refine G_ior F zd_M_four_10 ?_
  refine G_iload_n F zd_M_four_11 rfl (j := 3) rfl ?_
  refine G_bipush (v := (24 : Int32)) F zd_M_four_12 (by decide) ?_
  refine G_ishl F zd_M_four_14 ?_
  refine G_ior F zd_M_four_15 ?_
  have q1 := Option.some.inj h
  subst q1
  exact E 16 _ zd_M_four_16

set_option maxHeartbeats 4000000 in
set_option maxRecDepth 100000 in
theorem zk_M_intAt (l : Launch) (D : va_G) (cB cI cJ : ClassId) (ma : Nat) (mb : Nat) (mz : Nat) (mh : Nat) (me : Nat) (th : Int32) (mf : Nat → Int32) (sz : Nat → Int32) (mc : Int32) (cp : Int32) (hi : Nat → Int32) (bg : Int32) (en : Int32) (tb : Nat → Int32) (ou : Int32) (mp : Int32) (fa : Int32) (i1 : Int32) (r : Int32) (h : zf_M_intAt hi i1 = some r) : CoI l zy_M_intAt zw_M_intAt { frames := 1, cells := 0, slots := 0, locals := 23 } D cB cI cJ [.ref ma, .int i1] [(ma, .inr (8, [.int th, .ref mb, .ref mz, .int mc, .int cp, .ref mh, .int bg, .int en, .ref me, .int ou, .int mp, .int fa])), (mb, .inl (cI, 600, .inl mf)), (mz, .inl (cI, 3, .inl sz)), (mh, .inl (cI, 224, .inl hi)), (me, .inl (cI, 32, .inl tb))] r [(ma, .inr (8, [.int th, .ref mb, .ref mz, .int mc, .int cp, .ref mh, .int bg, .int en, .ref me, .int ou, .int mp, .int fa])), (mb, .inl (cI, 600, .inl mf)), (mz, .inl (cI, 3, .inl sz)), (mh, .inl (cI, 224, .inl hi)), (me, .inl (cI, 32, .inl tb))] := by
  unfold zf_M_intAt at h
  refine CoI.ofG (cc := zc_M_intAt) (maxL := 2) (own := RX10) (by decide) rfl rfl rfl trivial (Nat.le_of_ble_eq_true rfl) (L0 := [(0, .ref ma), (1, .int i1)]) rfl (fun k F E => ?_)
  refine G_aload_n F zd_M_intAt_0 rfl (j := 0) rfl ?_
  refine G_get F fa_M_16_M (q := 0) zd_M_intAt_1 rfl rfl ?_
  refine G_iload_n F zd_M_intAt_4 rfl (j := 1) rfl ?_
  obtain ⟨h0, h⟩ := gd_s h
  refine G_iaload F zd_M_intAt_5 (q := 3) rfl h0 ?_
  refine G_aload_n F zd_M_intAt_6 rfl (j := 0) rfl ?_
  refine G_get F fa_M_16_M (q := 0) zd_M_intAt_7 rfl rfl ?_
  refine G_iload_n F zd_M_intAt_10 rfl (j := 1) rfl ?_
  refine G_iconst (v := (1 : Int32)) F zd_M_intAt_11 (by decide) ?_
  refine G_iadd F zd_M_intAt_12 ?_
  obtain ⟨h0, h⟩ := gd_s h
  refine G_iaload F zd_M_intAt_13 (q := 3) rfl h0 ?_
  refine G_aload_n F zd_M_intAt_14 rfl (j := 0) rfl ?_
  refine G_get F fa_M_16_M (q := 0) zd_M_intAt_15 rfl rfl ?_
  refine G_iload_n F zd_M_intAt_18 rfl (j := 1) rfl ?_
  refine G_iconst (v := (2 : Int32)) F zd_M_intAt_19 (by decide) ?_
  refine G_iadd F zd_M_intAt_20 ?_
  obtain ⟨h0, h⟩ := gd_s h
  refine G_iaload F zd_M_intAt_21 (q := 3) rfl h0 ?_
  refine G_aload_n F zd_M_intAt_22 rfl (j := 0) rfl ?_
  refine G_get F fa_M_16_M (q := 0) zd_M_intAt_23 rfl rfl ?_
  refine G_iload_n F zd_M_intAt_26 rfl (j := 1) rfl ?_
  refine G_iconst (v := (3 : Int32)) F zd_M_intAt_27 (by decide) ?_
  refine G_iadd F zd_M_intAt_28 ?_
  obtain ⟨h0, h⟩ := gd_s h
  refine G_iaload F zd_M_intAt_29 (q := 3) rfl h0 ?_
  obtain ⟨v1, hc30, h⟩ := bc1_s h
  refine G_calliS0 F (zk_M_four l D cB cI cJ (hi (Int32.toNatClampNeg i1)) (hi (Int32.toNatClampNeg (i1 + (1 : Int32)))) (hi (Int32.toNatClampNeg (i1 + (2 : Int32)))) (hi (Int32.toNatClampNeg (i1 + (3 : Int32)))) v1 hc30) (rest := []) [] rfl rfl cv_M_46_M rfl rfl ⟨Nat.le_of_ble_eq_true rfl, Nat.le_of_ble_eq_true rfl⟩ hf0 rfl (Nat.le_of_ble_eq_true rfl) zd_M_intAt_30 rfl ?_
  have q1 := Option.some.inj h
  subst q1
  exact E 33 _ zd_M_intAt_33

set_option maxHeartbeats 4000000 in
set_option maxRecDepth 100000 in
theorem zk_M_slot (l : Launch) (D : va_G) (cB cI cJ : ClassId) (ma : Nat) (mb : Nat) (mz : Nat) (mh : Nat) (me : Nat) (th : Int32) (mf : Nat → Int32) (sz : Nat → Int32) (mc : Int32) (cp : Int32) (hi : Nat → Int32) (bg : Int32) (en : Int32) (tb : Nat → Int32) (ou : Int32) (mp : Int32) (fa : Int32) (i1 : Int32) (r : Int32) (h : zf_M_slot hi i1 = some r) : CoI l zy_M_slot zw_M_slot { frames := 2, cells := 0, slots := 0, locals := 44 } D cB cI cJ [.ref ma, .int i1] [(ma, .inr (8, [.int th, .ref mb, .ref mz, .int mc, .int cp, .ref mh, .int bg, .int en, .ref me, .int ou, .int mp, .int fa])), (mb, .inl (cI, 600, .inl mf)), (mz, .inl (cI, 3, .inl sz)), (mh, .inl (cI, 224, .inl hi)), (me, .inl (cI, 32, .inl tb))] r [(ma, .inr (8, [.int th, .ref mb, .ref mz, .int mc, .int cp, .ref mh, .int bg, .int en, .ref me, .int ou, .int mp, .int fa])), (mb, .inl (cI, 600, .inl mf)), (mz, .inl (cI, 3, .inl sz)), (mh, .inl (cI, 224, .inl hi)), (me, .inl (cI, 32, .inl tb))] := by
  unfold zf_M_slot at h
  refine CoI.ofG (cc := zc_M_slot) (maxL := 2) (own := RX10) (by decide) rfl rfl rfl trivial (Nat.le_of_ble_eq_true rfl) (L0 := [(0, .ref ma), (1, .int i1)]) rfl (fun k F E => ?_)
  refine G_aload_n F zd_M_slot_0 rfl (j := 0) rfl ?_
  refine G_iload_n F zd_M_slot_1 rfl (j := 1) rfl ?_
  obtain ⟨v1, hc2, h⟩ := bc1_s h
  refine G_calliV0 F (zk_M_intAt l D cB cI cJ ma mb mz mh me th mf sz mc cp hi bg en tb ou mp fa i1 v1 hc2) (rest := []) [0, 1, 2, 3, 4] rfl rfl (q0 := 0) rfl cv_M_50_M rfl rfl ⟨Nat.le_of_ble_eq_true rfl, Nat.le_of_ble_eq_true rfl⟩ hf0 rfl (Nat.le_of_ble_eq_true rfl) zd_M_slot_2 rfl ?_
  refine G_ldc (v := (-1640531535 : Int32)) F aw_330 zd_M_slot_5 ?_
  refine G_imul F zd_M_slot_7 ?_
  refine G_bipush (v := (27 : Int32)) F zd_M_slot_8 (by decide) ?_
  refine G_iushr F zd_M_slot_10 ?_
  have q1 := Option.some.inj h
  subst q1
  exact E 11 _ zd_M_slot_11

set_option maxHeartbeats 4000000 in
set_option maxRecDepth 100000 in
theorem zl_M_remembers_12 {k : GC} {l : Launch} {D : va_G} {cB cI cJ : ClassId} (F : GF k l { frames := 0, cells := 0, slots := 0, locals := 0 } zc_M_remembers 2 RX10 D cB cI cJ) (th : Int32) (mf : Nat → Int32) (sz : Nat → Int32) (mc : Int32) (cp : Int32) (en : Int32) (tb : Nat → Int32) (ou : Int32) (mp : Int32) (fa : Int32) (ma : Nat) (mb : Nat) (mz : Nat) (mh : Nat) (me : Nat) (v1 : Int32) : ∀ (n : Nat) (v2 : Int32) (v3 : Nat → Int32) (w2 : Int32) (w3 : Nat → Int32), zf_M_remembers_L12 mf v1 n v2 v3 = some (w2, w3) → G D 2 k 0 0 42 [(0, .ref ma), (1, .int w2)] [] [(ma, .inr (8, [.int th, .ref mb, .ref mz, .int mc, .int cp, .ref mh, .int v1, .int en, .ref me, .int ou, .int mp, .int fa])), (mb, .inl (cI, 600, .inl mf)), (mz, .inl (cI, 3, .inl sz)), (mh, .inl (cI, 224, .inl w3)), (me, .inl (cI, 32, .inl tb))] → G D 2 k 0 0 12 [(0, .ref ma), (1, .int v2)] [] [(ma, .inr (8, [.int th, .ref mb, .ref mz, .int mc, .int cp, .ref mh, .int v1, .int en, .ref me, .int ou, .int mp, .int fa])), (mb, .inl (cI, 600, .inl mf)), (mz, .inl (cI, 3, .inl sz)), (mh, .inl (cI, 224, .inl v3)), (me, .inl (cI, 32, .inl tb))] := by
  intro n
  induction n with
  | zero =>
    intro v2 v3 w2 w3 h
    rw [zf_M_remembers_L12_0] at h
    cases h
  | succ n ih =>
    intro v2 v3 w2 w3 h hx
    have h := (zf_M_remembers_L12_s mf v1 n v2 v3).symm.trans h
    refine G_iload_n F zd_M_remembers_12 rfl (j := 1) rfl ?_
    refine G_aload_n F zd_M_remembers_13 rfl (j := 0) rfl ?_
    refine G_get F fa_M_54_M (q := 0) zd_M_remembers_14 rfl rfl ?_
    refine G_icmp_ge F zd_M_remembers_17 (tgt := 42) rfl (fun h0 => ?_) (fun h0 => ?_)
    · have h := iP h h0
      obtain ⟨q1, q2⟩ := inj2 h
      subst q1
      subst q2
      exact G_lv [0, 1] rfl hx
    · have h := iN h h0
      refine G_aload_n F zd_M_remembers_20 rfl (j := 0) rfl ?_
      refine G_get F fa_M_16_M (q := 0) zd_M_remembers_21 rfl rfl ?_
      refine G_iload_n F zd_M_remembers_24 rfl (j := 1) rfl ?_
      refine G_aload_n F zd_M_remembers_25 rfl (j := 0) rfl ?_
      refine G_get F fa_M_7_M (q := 0) zd_M_remembers_26 rfl rfl ?_
      refine G_sipush (v := (400 : Int32)) F zd_M_remembers_29 (by decide) ?_
      refine G_iload_n F zd_M_remembers_32 rfl (j := 1) rfl ?_
      refine G_iadd F zd_M_remembers_33 ?_
      obtain ⟨h0, h⟩ := gd_s h
      refine G_iaload F zd_M_remembers_34 (q := 1) rfl h0 ?_
      obtain ⟨h0, h⟩ := gd_s h
      obtain ⟨v4, ev4, h⟩ := bnd_s h
      refine G_iastore F zd_M_remembers_35 (q := 3) rfl h0 ev4 (ws' := [(ma, .inr (8, [.int th, .ref mb, .ref mz, .int mc, .int cp, .ref mh, .int v1, .int en, .ref me, .int ou, .int mp, .int fa])), (mb, .inl (cI, 600, .inl mf)), (mz, .inl (cI, 3, .inl sz)), (mh, .inl (cI, 224, .inl v4)), (me, .inl (cI, 32, .inl tb))]) rfl ?_
      obtain ⟨v5, ev5, h⟩ := bnd_s h
      refine G_iinc F zd_M_remembers_36 (j := 1) rfl (w := (1 : Int32)) (by decide) ev5 (by decide) (L' := [(1, .int v5), (0, .ref ma)]) rfl ?_
      refine G_goto F zd_M_remembers_39 (tgt := 12) rfl ?_
      exact G_lv [1, 0] rfl (ih _ _ _ _ h hx)
set_option maxHeartbeats 4000000 in
set_option maxRecDepth 100000 in
theorem zk_M_remembers (l : Launch) (D : va_G) (cB cI cJ : ClassId) (ma : Nat) (mb : Nat) (mz : Nat) (mh : Nat) (me : Nat) (th : Int32) (mf : Nat → Int32) (sz : Nat → Int32) (mc : Int32) (cp : Int32) (hi : Nat → Int32) (bg : Int32) (en : Int32) (tb : Nat → Int32) (ou : Int32) (mp : Int32) (fa : Int32) (bg' : Int32) (en' : Int32) (hi' : Nat → Int32) (h : zf_M_remembers mf sz hi = some (bg', en', hi')) : CoV l zy_M_remembers zw_M_remembers { frames := 0, cells := 0, slots := 0, locals := 0 } D cB cI cJ [.ref ma] [(ma, .inr (8, [.int th, .ref mb, .ref mz, .int mc, .int cp, .ref mh, .int bg, .int en, .ref me, .int ou, .int mp, .int fa])), (mb, .inl (cI, 600, .inl mf)), (mz, .inl (cI, 3, .inl sz)), (mh, .inl (cI, 224, .inl hi)), (me, .inl (cI, 32, .inl tb))] [(ma, .inr (8, [.int th, .ref mb, .ref mz, .int mc, .int cp, .ref mh, .int bg', .int en', .ref me, .int ou, .int mp, .int fa])), (mb, .inl (cI, 600, .inl mf)), (mz, .inl (cI, 3, .inl sz)), (mh, .inl (cI, 224, .inl hi')), (me, .inl (cI, 32, .inl tb))] := by
  unfold zf_M_remembers at h
  refine CoV.ofG (cc := zc_M_remembers) (maxL := 2) (own := RX10) (by decide) rfl rfl rfl trivial (Nat.le_of_ble_eq_true rfl) (L0 := [(0, .ref ma)]) rfl (fun k F E => ?_)
  refine G_aload_n F zd_M_remembers_0 rfl (j := 0) rfl ?_
  refine G_aload_n F zd_M_remembers_1 rfl (j := 0) rfl ?_
  refine G_get F fa_M_13_M (q := 0) zd_M_remembers_2 rfl rfl ?_
  refine G_iconst (v := (2 : Int32)) F zd_M_remembers_5 (by decide) ?_
  obtain ⟨h0, h⟩ := gd_s h
  refine G_iaload F zd_M_remembers_6 (q := 2) rfl h0 ?_
  obtain ⟨v1, ev1, h⟩ := bnd_s h
  refine G_topi ev1 ?_
  refine G_put F fp_M_54_M (q := 0) zd_M_remembers_7 rfl (Nat.le_of_ble_eq_true rfl) (ws' := [(ma, .inr (8, [.int th, .ref mb, .ref mz, .int mc, .int cp, .ref mh, .int v1, .int en, .ref me, .int ou, .int mp, .int fa])), (mb, .inl (cI, 600, .inl mf)), (mz, .inl (cI, 3, .inl sz)), (mh, .inl (cI, 224, .inl hi)), (me, .inl (cI, 32, .inl tb))]) rfl ?_
  refine G_iconst (v := (0 : Int32)) F zd_M_remembers_10 (by decide) ?_
  refine G_istore_n F zd_M_remembers_11 rfl (by decide) (L' := [(1, .int (0 : Int32)), (0, .ref ma)]) rfl ?_
  obtain ⟨x6, x7, hl12, h⟩ := bc2_s h
  refine G_lv [1, 0] rfl (zl_M_remembers_12 F th mf sz mc cp en tb ou mp fa ma mb mz mh me v1 1000 (0 : Int32) hi x6 x7 hl12 ?_)
  refine G_aload_n F zd_M_remembers_42 rfl (j := 0) rfl ?_
  refine G_aload_n F zd_M_remembers_43 rfl (j := 0) rfl ?_
  refine G_get F fa_M_54_M (q := 0) zd_M_remembers_44 rfl rfl ?_
  refine G_put F fp_M_57_M (q := 0) zd_M_remembers_47 rfl (Nat.le_of_ble_eq_true rfl) (ws' := [(ma, .inr (8, [.int th, .ref mb, .ref mz, .int mc, .int cp, .ref mh, .int v1, .int v1, .ref me, .int ou, .int mp, .int fa])), (mb, .inl (cI, 600, .inl mf)), (mz, .inl (cI, 3, .inl sz)), (mh, .inl (cI, 224, .inl x7)), (me, .inl (cI, 32, .inl tb))]) rfl ?_
  obtain ⟨q1, q2, q3⟩ := inj3 h
  subst q1
  subst q2
  subst q3
  exact E 50 _ zd_M_remembers_50

