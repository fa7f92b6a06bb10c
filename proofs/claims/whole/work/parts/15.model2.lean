set_option maxHeartbeats 4000000 in
set_option maxRecDepth 100000 in
theorem zk_M_emit (l : Launch) (D : va_G) (cB cI cJ : ClassId) (ma : Nat) (mb : Nat) (mz : Nat) (mh : Nat) (me : Nat) (th : Int32) (mf : Nat → Int32) (sz : Nat → Int32) (mc : Int32) (cp : Int32) (hi : Nat → Int32) (bg : Int32) (en : Int32) (tb : Nat → Int32) (ou : Int32) (mp : Int32) (fa : Int32) (i1 : Int32) (ou' : Int32) (mf' : Nat → Int32) (h : zf_M_emit mf ou i1 = some (ou', mf')) : CoV l zy_M_emit zw_M_emit { frames := 0, cells := 0, slots := 0, locals := 0 } D cB cI cJ [.ref ma, .int i1] [(ma, .inr (8, [.int th, .ref mb, .ref mz, .int mc, .int cp, .ref mh, .int bg, .int en, .ref me, .int ou, .int mp, .int fa])), (mb, .inl (cI, 600, .inl mf)), (mz, .inl (cI, 3, .inl sz)), (mh, .inl (cI, 224, .inl hi)), (me, .inl (cI, 32, .inl tb))] [(ma, .inr (8, [.int th, .ref mb, .ref mz, .int mc, .int cp, .ref mh, .int bg, .int en, .ref me, .int ou', .int mp, .int fa])), (mb, .inl (cI, 600, .inl mf')), (mz, .inl (cI, 3, .inl sz)), (mh, .inl (cI, 224, .inl hi)), (me, .inl (cI, 32, .inl tb))] := by
  unfold zf_M_emit at h
  refine CoV.ofG (cc := zc_M_emit) (maxL := 2) (own := RX10) (by decide) rfl rfl rfl trivial (Nat.le_of_ble_eq_true rfl) (L0 := [(0, .ref ma), (1, .int i1)]) rfl (fun k F E => ?_)
  refine G_aload_n F zd_M_emit_0 rfl (j := 0) rfl ?_
  refine G_get F fa_M_7_M (q := 0) zd_M_emit_1 rfl rfl ?_
  refine G_sipush (v := (200 : Int32)) F zd_M_emit_4 (by decide) ?_
  refine G_aload_n F zd_M_emit_7 rfl (j := 0) rfl ?_
  refine G_get F fa_M_60_M (q := 0) zd_M_emit_8 rfl rfl ?_
  refine G_iadd F zd_M_emit_11 ?_
  refine G_iload_n F zd_M_emit_12 rfl (j := 1) rfl ?_
  refine G_sipush (v := (255 : Int32)) F zd_M_emit_13 (by decide) ?_
  refine G_iand F zd_M_emit_16 ?_
  obtain ⟨h0, h⟩ := gd_s h
  obtain ⟨v1, ev1, h⟩ := bnd_s h
  refine G_iastore F zd_M_emit_17 (q := 1) rfl h0 ev1 (ws' := [(ma, .inr (8, [.int th, .ref mb, .ref mz, .int mc, .int cp, .ref mh, .int bg, .int en, .ref me, .int ou, .int mp, .int fa])), (mb, .inl (cI, 600, .inl v1)), (mz, .inl (cI, 3, .inl sz)), (mh, .inl (cI, 224, .inl hi)), (me, .inl (cI, 32, .inl tb))]) rfl ?_
  refine G_aload_n F zd_M_emit_18 rfl (j := 0) rfl ?_
  refine G_dup F zd_M_emit_19 rfl ?_
  refine G_get F fa_M_60_M (q := 0) zd_M_emit_20 rfl rfl ?_
  refine G_iconst (v := (1 : Int32)) F zd_M_emit_23 (by decide) ?_
  refine G_iadd F zd_M_emit_24 ?_
  obtain ⟨v2, ev2, h⟩ := bnd_s h
  refine G_topi ev2 ?_
  refine G_put F fp_M_60_M (q := 0) zd_M_emit_25 rfl (Nat.le_of_ble_eq_true rfl) (ws' := [(ma, .inr (8, [.int th, .ref mb, .ref mz, .int mc, .int cp, .ref mh, .int bg, .int en, .ref me, .int v2, .int mp, .int fa])), (mb, .inl (cI, 600, .inl v1)), (mz, .inl (cI, 3, .inl sz)), (mh, .inl (cI, 224, .inl hi)), (me, .inl (cI, 32, .inl tb))]) rfl ?_
  obtain ⟨q1, q2⟩ := inj2 h
  subst q1
  subst q2
  exact E 28 _ zd_M_emit_28

set_option maxHeartbeats 4000000 in
set_option maxRecDepth 100000 in
theorem zl_M_emitLiterals_2 {k : GC} {l : Launch} {D : va_G} {cB cI cJ : ClassId} (F : GF k l { frames := 1, cells := 0, slots := 0, locals := 21 } zc_M_emitLiterals 4 RX10 D cB cI cJ) (th : Int32) (sz : Nat → Int32) (mc : Int32) (cp : Int32) (hi : Nat → Int32) (bg : Int32) (en : Int32) (tb : Nat → Int32) (mp : Int32) (fa : Int32) (i1 : Int32) (i2 : Int32) (ma : Nat) (mb : Nat) (mz : Nat) (mh : Nat) (me : Nat) : ∀ (n : Nat) (v1 : Int32) (v2 : Int32) (v3 : Nat → Int32) (w1 : Int32) (w2 : Int32) (w3 : Nat → Int32), zf_M_emitLiterals_L2 hi i2 n v1 v2 v3 = some (w1, w2, w3) → G D 4 k 0 0 23 [(0, .ref ma), (1, .int i1), (2, .int i2), (3, .int w1)] [] [(ma, .inr (8, [.int th, .ref mb, .ref mz, .int mc, .int cp, .ref mh, .int bg, .int en, .ref me, .int w2, .int mp, .int fa])), (mb, .inl (cI, 600, .inl w3)), (mz, .inl (cI, 3, .inl sz)), (mh, .inl (cI, 224, .inl hi)), (me, .inl (cI, 32, .inl tb))] → G D 4 k 0 0 2 [(0, .ref ma), (1, .int i1), (2, .int i2), (3, .int v1)] [] [(ma, .inr (8, [.int th, .ref mb, .ref mz, .int mc, .int cp, .ref mh, .int bg, .int en, .ref me, .int v2, .int mp, .int fa])), (mb, .inl (cI, 600, .inl v3)), (mz, .inl (cI, 3, .inl sz)), (mh, .inl (cI, 224, .inl hi)), (me, .inl (cI, 32, .inl tb))] := by
  intro n
  induction n with
  | zero =>
    intro v1 v2 v3 w1 w2 w3 h
    rw [zf_M_emitLiterals_L2_0] at h
    cases h
  | succ n ih =>
    intro v1 v2 v3 w1 w2 w3 h hx
    have h := (zf_M_emitLiterals_L2_s hi i2 n v1 v2 v3).symm.trans h
    refine G_iload_n F zd_M_emitLiterals_2 rfl (j := 3) rfl ?_
    refine G_iload_n F zd_M_emitLiterals_3 rfl (j := 2) rfl ?_
    refine G_icmp_ge F zd_M_emitLiterals_4 (tgt := 23) rfl (fun h0 => ?_) (fun h0 => ?_)
    · have h := iP h h0
      obtain ⟨q1, q2, q3⟩ := inj3 h
      subst q1
      subst q2
      subst q3
      exact G_lv [0, 1, 2, 3] rfl hx
    · have h := iN h h0
      refine G_aload_n F zd_M_emitLiterals_7 rfl (j := 0) rfl ?_
      refine G_aload_n F zd_M_emitLiterals_8 rfl (j := 0) rfl ?_
      refine G_get F fa_M_16_M (q := 0) zd_M_emitLiterals_9 rfl rfl ?_
      refine G_iload_n F zd_M_emitLiterals_12 rfl (j := 3) rfl ?_
      obtain ⟨h0, h⟩ := gd_s h
      refine G_iaload F zd_M_emitLiterals_13 (q := 3) rfl h0 ?_
      obtain ⟨v4, v5, hc14, h⟩ := bc2_s h
      refine G_callvV F (zk_M_emit l D cB cI cJ ma mb mz mh me th v3 sz mc cp hi bg en tb v2 mp fa (hi (Int32.toNatClampNeg v1)) v4 v5 hc14) (rest := []) [0, 1, 2, 3, 4] rfl rfl rfl (ws' := [(ma, .inr (8, [.int th, .ref mb, .ref mz, .int mc, .int cp, .ref mh, .int bg, .int en, .ref me, .int v4, .int mp, .int fa])), (mb, .inl (cI, 600, .inl v5)), (mz, .inl (cI, 3, .inl sz)), (mh, .inl (cI, 224, .inl hi)), (me, .inl (cI, 32, .inl tb))]) rfl (q0 := 0) rfl cv_M_63_M rfl rfl ⟨Nat.le_of_ble_eq_true rfl, Nat.le_of_ble_eq_true rfl⟩ hf0 rfl (Nat.le_of_ble_eq_true rfl) zd_M_emitLiterals_14 rfl ?_
      obtain ⟨v6, ev6, h⟩ := bnd_s h
      refine G_iinc F zd_M_emitLiterals_17 (j := 3) rfl (w := (1 : Int32)) (by decide) ev6 (by decide) (L' := [(3, .int v6), (0, .ref ma), (1, .int i1), (2, .int i2)]) rfl ?_
      refine G_goto F zd_M_emitLiterals_20 (tgt := 2) rfl ?_
      exact G_lv [1, 2, 3, 0] rfl (ih _ _ _ _ _ _ h hx)
set_option maxHeartbeats 4000000 in
set_option maxRecDepth 100000 in
theorem zk_M_emitLiterals (l : Launch) (D : va_G) (cB cI cJ : ClassId) (ma : Nat) (mb : Nat) (mz : Nat) (mh : Nat) (me : Nat) (th : Int32) (mf : Nat → Int32) (sz : Nat → Int32) (mc : Int32) (cp : Int32) (hi : Nat → Int32) (bg : Int32) (en : Int32) (tb : Nat → Int32) (ou : Int32) (mp : Int32) (fa : Int32) (i1 : Int32) (i2 : Int32) (ou' : Int32) (mf' : Nat → Int32) (h : zf_M_emitLiterals mf hi ou i1 i2 = some (ou', mf')) : CoV l zy_M_emitLiterals zw_M_emitLiterals { frames := 1, cells := 0, slots := 0, locals := 21 } D cB cI cJ [.ref ma, .int i1, .int i2] [(ma, .inr (8, [.int th, .ref mb, .ref mz, .int mc, .int cp, .ref mh, .int bg, .int en, .ref me, .int ou, .int mp, .int fa])), (mb, .inl (cI, 600, .inl mf)), (mz, .inl (cI, 3, .inl sz)), (mh, .inl (cI, 224, .inl hi)), (me, .inl (cI, 32, .inl tb))] [(ma, .inr (8, [.int th, .ref mb, .ref mz, .int mc, .int cp, .ref mh, .int bg, .int en, .ref me, .int ou', .int mp, .int fa])), (mb, .inl (cI, 600, .inl mf')), (mz, .inl (cI, 3, .inl sz)), (mh, .inl (cI, 224, .inl hi)), (me, .inl (cI, 32, .inl tb))] := by
  unfold zf_M_emitLiterals at h
  refine CoV.ofG (cc := zc_M_emitLiterals) (maxL := 4) (own := RX10) (by decide) rfl rfl rfl trivial (Nat.le_of_ble_eq_true rfl) (L0 := [(0, .ref ma), (1, .int i1), (2, .int i2)]) rfl (fun k F E => ?_)
  refine G_iload_n F zd_M_emitLiterals_0 rfl (j := 1) rfl ?_
  refine G_istore_n F zd_M_emitLiterals_1 rfl (by decide) (L' := [(3, .int i1), (0, .ref ma), (1, .int i1), (2, .int i2)]) rfl ?_
  obtain ⟨x7, x8, x9, hl2, h⟩ := bc3_s h
  refine G_lv [1, 2, 3, 0] rfl (zl_M_emitLiterals_2 F th sz mc cp hi bg en tb mp fa i1 i2 ma mb mz mh me 1000 i1 ou mf x7 x8 x9 hl2 ?_)
  obtain ⟨q1, q2⟩ := inj2 h
  subst q1
  subst q2
  exact E 23 _ zd_M_emitLiterals_23

set_option maxHeartbeats 4000000 in
set_option maxRecDepth 100000 in
theorem zl_M_emitMore_12 {k : GC} {l : Launch} {D : va_G} {cB cI cJ : ClassId} (F : GF k l { frames := 1, cells := 0, slots := 0, locals := 21 } zc_M_emitMore 3 RX10 D cB cI cJ) (th : Int32) (sz : Nat → Int32) (mc : Int32) (cp : Int32) (hi : Nat → Int32) (bg : Int32) (en : Int32) (tb : Nat → Int32) (mp : Int32) (fa : Int32) (i1 : Int32) (ma : Nat) (mb : Nat) (mz : Nat) (mh : Nat) (me : Nat) : ∀ (n : Nat) (v2 : Int32) (v3 : Int32) (v4 : Nat → Int32) (w2 : Int32) (w3 : Int32) (w4 : Nat → Int32), zf_M_emitMore_L12  n v2 v3 v4 = some (w2, w3, w4) → G D 3 k 0 0 35 [(0, .ref ma), (1, .int i1), (2, .int w2)] [] [(ma, .inr (8, [.int th, .ref mb, .ref mz, .int mc, .int cp, .ref mh, .int bg, .int en, .ref me, .int w3, .int mp, .int fa])), (mb, .inl (cI, 600, .inl w4)), (mz, .inl (cI, 3, .inl sz)), (mh, .inl (cI, 224, .inl hi)), (me, .inl (cI, 32, .inl tb))] → G D 3 k 0 0 12 [(0, .ref ma), (1, .int i1), (2, .int v2)] [] [(ma, .inr (8, [.int th, .ref mb, .ref mz, .int mc, .int cp, .ref mh, .int bg, .int en, .ref me, .int v3, .int mp, .int fa])), (mb, .inl (cI, 600, .inl v4)), (mz, .inl (cI, 3, .inl sz)), (mh, .inl (cI, 224, .inl hi)), (me, .inl (cI, 32, .inl tb))] := by
  intro n
  induction n with
  | zero =>
    intro v2 v3 v4 w2 w3 w4 h
    rw [zf_M_emitMore_L12_0] at h
    cases h
  | succ n ih =>
    intro v2 v3 v4 w2 w3 w4 h hx
    have h := (zf_M_emitMore_L12_s  n v2 v3 v4).symm.trans h
    refine G_iload_n F zd_M_emitMore_12 rfl (j := 2) rfl ?_
    refine G_sipush (v := (255 : Int32)) F zd_M_emitMore_13 (by decide) ?_
    refine G_icmp_lt F zd_M_emitMore_16 (tgt := 35) rfl (fun h0 => ?_) (fun h0 => ?_)
    · have h := iP h h0
      obtain ⟨q1, q2, q3⟩ := inj3 h
      subst q1
      subst q2
      subst q3
      exact G_lv [0, 1, 2] rfl hx
    · have h := iN h h0
      refine G_aload_n F zd_M_emitMore_19 rfl (j := 0) rfl ?_
      refine G_sipush (v := (255 : Int32)) F zd_M_emitMore_20 (by decide) ?_
      obtain ⟨v5, v6, hc23, h⟩ := bc2_s h
      refine G_callvV F (zk_M_emit l D cB cI cJ ma mb mz mh me th v4 sz mc cp hi bg en tb v3 mp fa (255 : Int32) v5 v6 hc23) (rest := []) [0, 1, 2, 3, 4] rfl rfl rfl (ws' := [(ma, .inr (8, [.int th, .ref mb, .ref mz, .int mc, .int cp, .ref mh, .int bg, .int en, .ref me, .int v5, .int mp, .int fa])), (mb, .inl (cI, 600, .inl v6)), (mz, .inl (cI, 3, .inl sz)), (mh, .inl (cI, 224, .inl hi)), (me, .inl (cI, 32, .inl tb))]) rfl (q0 := 0) rfl cv_M_63_M rfl rfl ⟨Nat.le_of_ble_eq_true rfl, Nat.le_of_ble_eq_true rfl⟩ hf0 rfl (Nat.le_of_ble_eq_true rfl) zd_M_emitMore_23 rfl ?_
      obtain ⟨v7, ev7, h⟩ := bnd_s h
      refine G_iinc_w F zd_M_emitMore_26 (j := 2) rfl (w := (-255 : Int32)) (by decide) ev7 (by decide) (L' := [(2, .int v7), (0, .ref ma), (1, .int i1)]) rfl ?_
      refine G_goto F zd_M_emitMore_32 (tgt := 12) rfl ?_
      exact G_lv [1, 2, 0] rfl (ih _ _ _ _ _ _ h hx)
set_option maxHeartbeats 4000000 in
set_option maxRecDepth 100000 in
theorem zk_M_emitMore (l : Launch) (D : va_G) (cB cI cJ : ClassId) (ma : Nat) (mb : Nat) (mz : Nat) (mh : Nat) (me : Nat) (th : Int32) (mf : Nat → Int32) (sz : Nat → Int32) (mc : Int32) (cp : Int32) (hi : Nat → Int32) (bg : Int32) (en : Int32) (tb : Nat → Int32) (ou : Int32) (mp : Int32) (fa : Int32) (i1 : Int32) (ou' : Int32) (mf' : Nat → Int32) (h : zf_M_emitMore mf ou i1 = some (ou', mf')) : CoV l zy_M_emitMore zw_M_emitMore { frames := 1, cells := 0, slots := 0, locals := 21 } D cB cI cJ [.ref ma, .int i1] [(ma, .inr (8, [.int th, .ref mb, .ref mz, .int mc, .int cp, .ref mh, .int bg, .int en, .ref me, .int ou, .int mp, .int fa])), (mb, .inl (cI, 600, .inl mf)), (mz, .inl (cI, 3, .inl sz)), (mh, .inl (cI, 224, .inl hi)), (me, .inl (cI, 32, .inl tb))] [(ma, .inr (8, [.int th, .ref mb, .ref mz, .int mc, .int cp, .ref mh, .int bg, .int en, .ref me, .int ou', .int mp, .int fa])), (mb, .inl (cI, 600, .inl mf')), (mz, .inl (cI, 3, .inl sz)), (mh, .inl (cI, 224, .inl hi)), (me, .inl (cI, 32, .inl tb))] := by
  unfold zf_M_emitMore at h
  refine CoV.ofG (cc := zc_M_emitMore) (maxL := 3) (own := RX10) (by decide) rfl rfl rfl trivial (Nat.le_of_ble_eq_true rfl) (L0 := [(0, .ref ma), (1, .int i1)]) rfl (fun k F E => ?_)
  refine G_iload_n F zd_M_emitMore_0 rfl (j := 1) rfl ?_
  refine G_bipush (v := (15 : Int32)) F zd_M_emitMore_1 (by decide) ?_
  refine G_icmp_ge F zd_M_emitMore_3 (tgt := 7) rfl (fun h0 => ?_) (fun h0 => ?_)
  · have h := iP h h0
    refine G_iload_n F zd_M_emitMore_7 rfl (j := 1) rfl ?_
    refine G_bipush (v := (15 : Int32)) F zd_M_emitMore_8 (by decide) ?_
    refine G_isub F zd_M_emitMore_10 ?_
    obtain ⟨v1, ev1, h⟩ := bnd_s h
    refine G_topi ev1 ?_
    refine G_istore_n F zd_M_emitMore_11 rfl (by decide) (L' := [(2, .int v1), (0, .ref ma), (1, .int i1)]) rfl ?_
    obtain ⟨x8, x9, x10, hl12, h⟩ := bc3_s h
    refine G_lv [1, 2, 0] rfl (zl_M_emitMore_12 F th sz mc cp hi bg en tb mp fa i1 ma mb mz mh me 1000 v1 ou mf x8 x9 x10 hl12 ?_)
    refine G_aload_n F zd_M_emitMore_35 rfl (j := 0) rfl ?_
    refine G_iload_n F zd_M_emitMore_36 rfl (j := 2) rfl ?_
    obtain ⟨v11, v12, hc37, h⟩ := bc2_s h
    refine G_callvV F (zk_M_emit l D cB cI cJ ma mb mz mh me th x10 sz mc cp hi bg en tb x9 mp fa x8 v11 v12 hc37) (rest := []) [0, 1, 2, 3, 4] rfl rfl rfl (ws' := [(ma, .inr (8, [.int th, .ref mb, .ref mz, .int mc, .int cp, .ref mh, .int bg, .int en, .ref me, .int v11, .int mp, .int fa])), (mb, .inl (cI, 600, .inl v12)), (mz, .inl (cI, 3, .inl sz)), (mh, .inl (cI, 224, .inl hi)), (me, .inl (cI, 32, .inl tb))]) rfl (q0 := 0) rfl cv_M_63_M rfl rfl ⟨Nat.le_of_ble_eq_true rfl, Nat.le_of_ble_eq_true rfl⟩ hf0 rfl (Nat.le_of_ble_eq_true rfl) zd_M_emitMore_37 rfl ?_
    obtain ⟨q1, q2⟩ := inj2 h
    subst q1
    subst q2
    exact E 40 _ zd_M_emitMore_40
  · have h := iN h h0
    obtain ⟨q1, q2⟩ := inj2 h
    subst q1
    subst q2
    exact E 6 _ zd_M_emitMore_6

set_option maxHeartbeats 4000000 in
set_option maxRecDepth 100000 in
theorem zk_M_atMost15 (l : Launch) (D : va_G) (cB cI cJ : ClassId) (i0 : Int32) (r : Int32) (h : zf_M_atMost15 i0 = some r) : CoI l zy_M_atMost15 zw_M_atMost15 { frames := 0, cells := 0, slots := 0, locals := 0 } D cB cI cJ [.int i0] [] r [] := by
  unfold zf_M_atMost15 at h
  refine CoI.ofG (cc := zc_M_atMost15) (maxL := 1) (own := RX10) (by decide) rfl rfl rfl trivial (Nat.le_of_ble_eq_true rfl) (L0 := [(0, .int i0)]) rfl (fun k F E => ?_)
  refine G_iload_n F zd_M_atMost15_0 rfl (j := 0) rfl ?_
  refine G_bipush (v := (15 : Int32)) F zd_M_atMost15_1 (by decide) ?_
  refine G_icmp_ge F zd_M_atMost15_3 (tgt := 10) rfl (fun h0 => ?_) (fun h0 => ?_)
  · have h := iP h h0
    refine G_bipush (v := (15 : Int32)) F zd_M_atMost15_10 (by decide) ?_
    have q1 := Option.some.inj h
    subst q1
    exact E 12 _ zd_M_atMost15_12
  · have h := iN h h0
    refine G_iload_n F zd_M_atMost15_6 rfl (j := 0) rfl ?_
    refine G_goto F zd_M_atMost15_7 (tgt := 12) rfl ?_
    have q1 := Option.some.inj h
    subst q1
    exact E 12 _ zd_M_atMost15_12

set_option maxHeartbeats 4000000 in
set_option maxRecDepth 100000 in
theorem zk_M_sequence (l : Launch) (D : va_G) (cB cI cJ : ClassId) (ma : Nat) (mb : Nat) (mz : Nat) (mh : Nat) (me : Nat) (th : Int32) (mf : Nat → Int32) (sz : Nat → Int32) (mc : Int32) (cp : Int32) (hi : Nat → Int32) (bg : Int32) (en : Int32) (tb : Nat → Int32) (ou : Int32) (mp : Int32) (fa : Int32) (i1 : Int32) (i2 : Int32) (i3 : Int32) (i4 : Int32) (ou' : Int32) (mf' : Nat → Int32) (h : zf_M_sequence mf hi ou i1 i2 i3 i4 = some (ou', mf')) : CoV l zy_M_sequence zw_M_sequence { frames := 2, cells := 0, slots := 0, locals := 44 } D cB cI cJ [.ref ma, .int i1, .int i2, .int i3, .int i4] [(ma, .inr (8, [.int th, .ref mb, .ref mz, .int mc, .int cp, .ref mh, .int bg, .int en, .ref me, .int ou, .int mp, .int fa])), (mb, .inl (cI, 600, .inl mf)), (mz, .inl (cI, 3, .inl sz)), (mh, .inl (cI, 224, .inl hi)), (me, .inl (cI, 32, .inl tb))] [(ma, .inr (8, [.int th, .ref mb, .ref mz, .int mc, .int cp, .ref mh, .int bg, .int en, .ref me, .int ou', .int mp, .int fa])), (mb, .inl (cI, 600, .inl mf')), (mz, .inl (cI, 3, .inl sz)), (mh, .inl (cI, 224, .inl hi)), (me, .inl (cI, 32, .inl tb))] := by
  unfold zf_M_sequence at h
  refine CoV.ofG (cc := zc_M_sequence) (maxL := 6) (own := RX10) (by decide) rfl rfl rfl trivial (Nat.le_of_ble_eq_true rfl) (L0 := [(0, .ref ma), (1, .int i1), (2, .int i2), (3, .int i3), (4, .int i4)]) rfl (fun k F E => ?_)
  refine G_iload_n F zd_M_sequence_0 rfl (j := 2) rfl ?_
  refine G_iload_n F zd_M_sequence_1 rfl (j := 1) rfl ?_
  refine G_isub F zd_M_sequence_2 ?_
  obtain ⟨v1, ev1, h⟩ := bnd_s h
  refine G_topi ev1 ?_
  refine G_istore F zd_M_sequence_3 (by decide) (L' := [(5, .int v1), (0, .ref ma), (1, .int i1), (2, .int i2), (3, .int i3), (4, .int i4)]) rfl ?_
  refine G_aload_n F zd_M_sequence_5 rfl (j := 1) rfl ?_
  refine G_iload F zd_M_sequence_6 (j := 0) rfl ?_
  obtain ⟨v2, hc8, h⟩ := bc1_s h
  refine G_calliS0 F (zk_M_atMost15 l D cB cI cJ v1 v2 hc8) (rest := [.ref ma]) [] rfl rfl cv_M_67_M rfl rfl ⟨Nat.le_of_ble_eq_true rfl, Nat.le_of_ble_eq_true rfl⟩ hf0 rfl (Nat.le_of_ble_eq_true rfl) zd_M_sequence_8 rfl ?_
  refine G_iconst (v := (4 : Int32)) F zd_M_sequence_11 (by decide) ?_
  refine G_ishl F zd_M_sequence_12 ?_
  refine G_iload_n F zd_M_sequence_13 rfl (j := 4) rfl ?_
  refine G_iconst (v := (4 : Int32)) F zd_M_sequence_14 (by decide) ?_
  refine G_isub F zd_M_sequence_15 ?_
  obtain ⟨v3, hc16, h⟩ := bc1_s h
  refine G_calliS0 F (zk_M_atMost15 l D cB cI cJ (i3 - (4 : Int32)) v3 hc16) (rest := [.int (v2 <<< ((4 : Int32) &&& 31)), .ref ma]) [] rfl rfl cv_M_67_M rfl rfl ⟨Nat.le_of_ble_eq_true rfl, Nat.le_of_ble_eq_true rfl⟩ hf0 rfl (Nat.le_of_ble_eq_true rfl) zd_M_sequence_16 rfl ?_
  refine G_ior F zd_M_sequence_19 ?_
  obtain ⟨v4, v5, hc20, h⟩ := bc2_s h
  refine G_callvV F (zk_M_emit l D cB cI cJ ma mb mz mh me th mf sz mc cp hi bg en tb ou mp fa ((v2 <<< ((4 : Int32) &&& 31)) ||| v3) v4 v5 hc20) (rest := []) [0, 1, 2, 3, 4] rfl rfl rfl (ws' := [(ma, .inr (8, [.int th, .ref mb, .ref mz, .int mc, .int cp, .ref mh, .int bg, .int en, .ref me, .int v4, .int mp, .int fa])), (mb, .inl (cI, 600, .inl v5)), (mz, .inl (cI, 3, .inl sz)), (mh, .inl (cI, 224, .inl hi)), (me, .inl (cI, 32, .inl tb))]) rfl (q0 := 0) rfl cv_M_63_M rfl rfl ⟨Nat.le_of_ble_eq_true rfl, Nat.le_of_ble_eq_true rfl⟩ hf0 rfl (Nat.le_of_ble_eq_true rfl) zd_M_sequence_20 rfl ?_
  refine G_aload_n F zd_M_sequence_23 rfl (j := 1) rfl ?_
  refine G_iload F zd_M_sequence_24 (j := 0) rfl ?_
  obtain ⟨v6, v7, hc26, h⟩ := bc2_s h
  refine G_callvV F (zk_M_emitMore l D cB cI cJ ma mb mz mh me th v5 sz mc cp hi bg en tb v4 mp fa v1 v6 v7 hc26) (rest := []) [0, 1, 2, 3, 4] rfl rfl rfl (ws' := [(ma, .inr (8, [.int th, .ref mb, .ref mz, .int mc, .int cp, .ref mh, .int bg, .int en, .ref me, .int v6, .int mp, .int fa])), (mb, .inl (cI, 600, .inl v7)), (mz, .inl (cI, 3, .inl sz)), (mh, .inl (cI, 224, .inl hi)), (me, .inl (cI, 32, .inl tb))]) rfl (q0 := 0) rfl cv_M_70_M rfl rfl ⟨Nat.le_of_ble_eq_true rfl, Nat.le_of_ble_eq_true rfl⟩ hf0 rfl (Nat.le_of_ble_eq_true rfl) zd_M_sequence_26 rfl ?_
  refine G_aload_n F zd_M_sequence_29 rfl (j := 1) rfl ?_
  refine G_iload_n F zd_M_sequence_30 rfl (j := 2) rfl ?_
  refine G_iload_n F zd_M_sequence_31 rfl (j := 3) rfl ?_
  obtain ⟨v8, v9, hc32, h⟩ := bc2_s h
  refine G_callvV F (zk_M_emitLiterals l D cB cI cJ ma mb mz mh me th v7 sz mc cp hi bg en tb v6 mp fa i1 i2 v8 v9 hc32) (rest := []) [0, 1, 2, 3, 4] rfl rfl rfl (ws' := [(ma, .inr (8, [.int th, .ref mb, .ref mz, .int mc, .int cp, .ref mh, .int bg, .int en, .ref me, .int v8, .int mp, .int fa])), (mb, .inl (cI, 600, .inl v9)), (mz, .inl (cI, 3, .inl sz)), (mh, .inl (cI, 224, .inl hi)), (me, .inl (cI, 32, .inl tb))]) rfl (q0 := 0) rfl cv_M_73_M rfl rfl ⟨Nat.le_of_ble_eq_true rfl, Nat.le_of_ble_eq_true rfl⟩ hf0 rfl (Nat.le_of_ble_eq_true rfl) zd_M_sequence_32 rfl ?_
  refine G_aload_n F zd_M_sequence_35 rfl (j := 1) rfl ?_
  refine G_iload F zd_M_sequence_36 (j := 5) rfl ?_
  obtain ⟨v10, v11, hc38, h⟩ := bc2_s h
  refine G_callvV F (zk_M_emit l D cB cI cJ ma mb mz mh me th v9 sz mc cp hi bg en tb v8 mp fa i4 v10 v11 hc38) (rest := []) [0, 1, 2, 3, 4] rfl rfl rfl (ws' := [(ma, .inr (8, [.int th, .ref mb, .ref mz, .int mc, .int cp, .ref mh, .int bg, .int en, .ref me, .int v10, .int mp, .int fa])), (mb, .inl (cI, 600, .inl v11)), (mz, .inl (cI, 3, .inl sz)), (mh, .inl (cI, 224, .inl hi)), (me, .inl (cI, 32, .inl tb))]) rfl (q0 := 0) rfl cv_M_63_M rfl rfl ⟨Nat.le_of_ble_eq_true rfl, Nat.le_of_ble_eq_true rfl⟩ hf0 rfl (Nat.le_of_ble_eq_true rfl) zd_M_sequence_38 rfl ?_
  refine G_aload_n F zd_M_sequence_41 rfl (j := 1) rfl ?_
  refine G_iload F zd_M_sequence_42 (j := 5) rfl ?_
  refine G_bipush (v := (8 : Int32)) F zd_M_sequence_44 (by decide) ?_
  refine G_ishr F zd_M_sequence_46 ?_
  obtain ⟨v12, v13, hc47, h⟩ := bc2_s h
  refine G_callvV F (zk_M_emit l D cB cI cJ ma mb mz mh me th v11 sz mc cp hi bg en tb v10 mp fa (i4 >>> ((8 : Int32) &&& 31)) v12 v13 hc47) (rest := []) [0, 1, 2, 3, 4] rfl rfl rfl (ws' := [(ma, .inr (8, [.int th, .ref mb, .ref mz, .int mc, .int cp, .ref mh, .int bg, .int en, .ref me, .int v12, .int mp, .int fa])), (mb, .inl (cI, 600, .inl v13)), (mz, .inl (cI, 3, .inl sz)), (mh, .inl (cI, 224, .inl hi)), (me, .inl (cI, 32, .inl tb))]) rfl (q0 := 0) rfl cv_M_63_M rfl rfl ⟨Nat.le_of_ble_eq_true rfl, Nat.le_of_ble_eq_true rfl⟩ hf0 rfl (Nat.le_of_ble_eq_true rfl) zd_M_sequence_47 rfl ?_
  refine G_aload_n F zd_M_sequence_50 rfl (j := 1) rfl ?_
  refine G_iload_n F zd_M_sequence_51 rfl (j := 4) rfl ?_
  refine G_iconst (v := (4 : Int32)) F zd_M_sequence_52 (by decide) ?_
  refine G_isub F zd_M_sequence_53 ?_
  obtain ⟨v14, v15, hc54, h⟩ := bc2_s h
  refine G_callvV F (zk_M_emitMore l D cB cI cJ ma mb mz mh me th v13 sz mc cp hi bg en tb v12 mp fa (i3 - (4 : Int32)) v14 v15 hc54) (rest := []) [0, 1, 2, 3, 4] rfl rfl rfl (ws' := [(ma, .inr (8, [.int th, .ref mb, .ref mz, .int mc, .int cp, .ref mh, .int bg, .int en, .ref me, .int v14, .int mp, .int fa])), (mb, .inl (cI, 600, .inl v15)), (mz, .inl (cI, 3, .inl sz)), (mh, .inl (cI, 224, .inl hi)), (me, .inl (cI, 32, .inl tb))]) rfl (q0 := 0) rfl cv_M_70_M rfl rfl ⟨Nat.le_of_ble_eq_true rfl, Nat.le_of_ble_eq_true rfl⟩ hf0 rfl (Nat.le_of_ble_eq_true rfl) zd_M_sequence_54 rfl ?_
  obtain ⟨q1, q2⟩ := inj2 h
  subst q1
  subst q2
  exact E 57 _ zd_M_sequence_57

set_option maxHeartbeats 4000000 in
set_option maxRecDepth 100000 in
theorem zk_M_lastSequence (l : Launch) (D : va_G) (cB cI cJ : ClassId) (ma : Nat) (mb : Nat) (mz : Nat) (mh : Nat) (me : Nat) (th : Int32) (mf : Nat → Int32) (sz : Nat → Int32) (mc : Int32) (cp : Int32) (hi : Nat → Int32) (bg : Int32) (en : Int32) (tb : Nat → Int32) (ou : Int32) (mp : Int32) (fa : Int32) (i1 : Int32) (i2 : Int32) (ou' : Int32) (mf' : Nat → Int32) (h : zf_M_lastSequence mf hi ou i1 i2 = some (ou', mf')) : CoV l zy_M_lastSequence zw_M_lastSequence { frames := 2, cells := 0, slots := 0, locals := 44 } D cB cI cJ [.ref ma, .int i1, .int i2] [(ma, .inr (8, [.int th, .ref mb, .ref mz, .int mc, .int cp, .ref mh, .int bg, .int en, .ref me, .int ou, .int mp, .int fa])), (mb, .inl (cI, 600, .inl mf)), (mz, .inl (cI, 3, .inl sz)), (mh, .inl (cI, 224, .inl hi)), (me, .inl (cI, 32, .inl tb))] [(ma, .inr (8, [.int th, .ref mb, .ref mz, .int mc, .int cp, .ref mh, .int bg, .int en, .ref me, .int ou', .int mp, .int fa])), (mb, .inl (cI, 600, .inl mf')), (mz, .inl (cI, 3, .inl sz)), (mh, .inl (cI, 224, .inl hi)), (me, .inl (cI, 32, .inl tb))] := by
  unfold zf_M_lastSequence at h
  refine CoV.ofG (cc := zc_M_lastSequence) (maxL := 3) (own := RX10) (by decide) rfl rfl rfl trivial (Nat.le_of_ble_eq_true rfl) (L0 := [(0, .ref ma), (1, .int i1), (2, .int i2)]) rfl (fun k F E => ?_)
  refine G_aload_n F zd_M_lastSequence_0 rfl (j := 0) rfl ?_
  refine G_iload_n F zd_M_lastSequence_1 rfl (j := 2) rfl ?_
  refine G_iload_n F zd_M_lastSequence_2 rfl (j := 1) rfl ?_
  refine G_isub F zd_M_lastSequence_3 ?_
  obtain ⟨v1, hc4, h⟩ := bc1_s h
  refine G_calliS0 F (zk_M_atMost15 l D cB cI cJ (i2 - i1) v1 hc4) (rest := [.ref ma]) [] rfl rfl cv_M_67_M rfl rfl ⟨Nat.le_of_ble_eq_true rfl, Nat.le_of_ble_eq_true rfl⟩ hf0 rfl (Nat.le_of_ble_eq_true rfl) zd_M_lastSequence_4 rfl ?_
  refine G_iconst (v := (4 : Int32)) F zd_M_lastSequence_7 (by decide) ?_
  refine G_ishl F zd_M_lastSequence_8 ?_
  obtain ⟨v2, v3, hc9, h⟩ := bc2_s h
  refine G_callvV F (zk_M_emit l D cB cI cJ ma mb mz mh me th mf sz mc cp hi bg en tb ou mp fa (v1 <<< ((4 : Int32) &&& 31)) v2 v3 hc9) (rest := []) [0, 1, 2, 3, 4] rfl rfl rfl (ws' := [(ma, .inr (8, [.int th, .ref mb, .ref mz, .int mc, .int cp, .ref mh, .int bg, .int en, .ref me, .int v2, .int mp, .int fa])), (mb, .inl (cI, 600, .inl v3)), (mz, .inl (cI, 3, .inl sz)), (mh, .inl (cI, 224, .inl hi)), (me, .inl (cI, 32, .inl tb))]) rfl (q0 := 0) rfl cv_M_63_M rfl rfl ⟨Nat.le_of_ble_eq_true rfl, Nat.le_of_ble_eq_true rfl⟩ hf0 rfl (Nat.le_of_ble_eq_true rfl) zd_M_lastSequence_9 rfl ?_
  refine G_aload_n F zd_M_lastSequence_12 rfl (j := 0) rfl ?_
  refine G_iload_n F zd_M_lastSequence_13 rfl (j := 2) rfl ?_
  refine G_iload_n F zd_M_lastSequence_14 rfl (j := 1) rfl ?_
  refine G_isub F zd_M_lastSequence_15 ?_
  obtain ⟨v4, v5, hc16, h⟩ := bc2_s h
  refine G_callvV F (zk_M_emitMore l D cB cI cJ ma mb mz mh me th v3 sz mc cp hi bg en tb v2 mp fa (i2 - i1) v4 v5 hc16) (rest := []) [0, 1, 2, 3, 4] rfl rfl rfl (ws' := [(ma, .inr (8, [.int th, .ref mb, .ref mz, .int mc, .int cp, .ref mh, .int bg, .int en, .ref me, .int v4, .int mp, .int fa])), (mb, .inl (cI, 600, .inl v5)), (mz, .inl (cI, 3, .inl sz)), (mh, .inl (cI, 224, .inl hi)), (me, .inl (cI, 32, .inl tb))]) rfl (q0 := 0) rfl cv_M_70_M rfl rfl ⟨Nat.le_of_ble_eq_true rfl, Nat.le_of_ble_eq_true rfl⟩ hf0 rfl (Nat.le_of_ble_eq_true rfl) zd_M_lastSequence_16 rfl ?_
  refine G_aload_n F zd_M_lastSequence_19 rfl (j := 0) rfl ?_
  refine G_iload_n F zd_M_lastSequence_20 rfl (j := 1) rfl ?_
  refine G_iload_n F zd_M_lastSequence_21 rfl (j := 2) rfl ?_
  obtain ⟨v6, v7, hc22, h⟩ := bc2_s h
  refine G_callvV F (zk_M_emitLiterals l D cB cI cJ ma mb mz mh me th v5 sz mc cp hi bg en tb v4 mp fa i1 i2 v6 v7 hc22) (rest := []) [0, 1, 2, 3, 4] rfl rfl rfl (ws' := [(ma, .inr (8, [.int th, .ref mb, .ref mz, .int mc, .int cp, .ref mh, .int bg, .int en, .ref me, .int v6, .int mp, .int fa])), (mb, .inl (cI, 600, .inl v7)), (mz, .inl (cI, 3, .inl sz)), (mh, .inl (cI, 224, .inl hi)), (me, .inl (cI, 32, .inl tb))]) rfl (q0 := 0) rfl cv_M_73_M rfl rfl ⟨Nat.le_of_ble_eq_true rfl, Nat.le_of_ble_eq_true rfl⟩ hf0 rfl (Nat.le_of_ble_eq_true rfl) zd_M_lastSequence_22 rfl ?_
  obtain ⟨q1, q2⟩ := inj2 h
  subst q1
  subst q2
  exact E 25 _ zd_M_lastSequence_25

set_option maxHeartbeats 4000000 in
set_option maxRecDepth 100000 in
theorem zk_M_literalElement (l : Launch) (D : va_G) (cB cI cJ : ClassId) (ma : Nat) (mb : Nat) (mz : Nat) (mh : Nat) (me : Nat) (th : Int32) (mf : Nat → Int32) (sz : Nat → Int32) (mc : Int32) (cp : Int32) (hi : Nat → Int32) (bg : Int32) (en : Int32) (tb : Nat → Int32) (ou : Int32) (mp : Int32) (fa : Int32) (i1 : Int32) (i2 : Int32) (ou' : Int32) (mf' : Nat → Int32) (h : zf_M_literalElement mf hi ou i1 i2 = some (ou', mf')) : CoV l zy_M_literalElement zw_M_literalElement { frames := 2, cells := 0, slots := 0, locals := 44 } D cB cI cJ [.ref ma, .int i1, .int i2] [(ma, .inr (8, [.int th, .ref mb, .ref mz, .int mc, .int cp, .ref mh, .int bg, .int en, .ref me, .int ou, .int mp, .int fa])), (mb, .inl (cI, 600, .inl mf)), (mz, .inl (cI, 3, .inl sz)), (mh, .inl (cI, 224, .inl hi)), (me, .inl (cI, 32, .inl tb))] [(ma, .inr (8, [.int th, .ref mb, .ref mz, .int mc, .int cp, .ref mh, .int bg, .int en, .ref me, .int ou', .int mp, .int fa])), (mb, .inl (cI, 600, .inl mf')), (mz, .inl (cI, 3, .inl sz)), (mh, .inl (cI, 224, .inl hi)), (me, .inl (cI, 32, .inl tb))] := by
  unfold zf_M_literalElement at h
  refine CoV.ofG (cc := zc_M_literalElement) (maxL := 4) (own := RX10) (by decide) rfl rfl rfl trivial (Nat.le_of_ble_eq_true rfl) (L0 := [(0, .ref ma), (1, .int i1), (2, .int i2)]) rfl (fun k F E => ?_)
  refine G_iload_n F zd_M_literalElement_0 rfl (j := 2) rfl ?_
  refine G_iload_n F zd_M_literalElement_1 rfl (j := 1) rfl ?_
  refine G_isub F zd_M_literalElement_2 ?_
  refine G_iconst (v := (1 : Int32)) F zd_M_literalElement_3 (by decide) ?_
  refine G_isub F zd_M_literalElement_4 ?_
  obtain ⟨v1, ev1, h⟩ := bnd_s h
  refine G_topi ev1 ?_
  refine G_istore_n F zd_M_literalElement_5 rfl (by decide) (L' := [(3, .int v1), (0, .ref ma), (1, .int i1), (2, .int i2)]) rfl ?_
  refine G_iload_n F zd_M_literalElement_6 rfl (j := 0) rfl ?_
  refine G_if_ge F zd_M_literalElement_7 (tgt := 11) rfl (fun h0 => ?_) (fun h0 => ?_)
  · have h := iP h h0
    refine G_aload_n F zd_M_literalElement_11 rfl (j := 1) rfl ?_
    refine G_iload_n F zd_M_literalElement_12 rfl (j := 0) rfl ?_
    refine G_bipush (v := (60 : Int32)) F zd_M_literalElement_13 (by decide) ?_
    obtain ⟨u2, hj24, h⟩ := bc1_s h
    have X24 : G D 4 k 0 0 24 [(0, .ref ma), (1, .int i1), (2, .int i2), (3, .int v1)] [.int u2, .ref ma] [(ma, .inr (8, [.int th, .ref mb, .ref mz, .int mc, .int cp, .ref mh, .int bg, .int en, .ref me, .int ou, .int mp, .int fa])), (mb, .inl (cI, 600, .inl mf)), (mz, .inl (cI, 3, .inl sz)), (mh, .inl (cI, 224, .inl hi)), (me, .inl (cI, 32, .inl tb))] := by
      refine G_iconst (v := (2 : Int32)) F zd_M_literalElement_24 (by decide) ?_
      refine G_ishl F zd_M_literalElement_25 ?_
      obtain ⟨v3, v4, hc26, h⟩ := bc2_s h
      refine G_callvV F (zk_M_emit l D cB cI cJ ma mb mz mh me th mf sz mc cp hi bg en tb ou mp fa (u2 <<< ((2 : Int32) &&& 31)) v3 v4 hc26) (rest := []) [0, 1, 2, 3, 4] rfl rfl rfl (ws' := [(ma, .inr (8, [.int th, .ref mb, .ref mz, .int mc, .int cp, .ref mh, .int bg, .int en, .ref me, .int v3, .int mp, .int fa])), (mb, .inl (cI, 600, .inl v4)), (mz, .inl (cI, 3, .inl sz)), (mh, .inl (cI, 224, .inl hi)), (me, .inl (cI, 32, .inl tb))]) rfl (q0 := 0) rfl cv_M_63_M rfl rfl ⟨Nat.le_of_ble_eq_true rfl, Nat.le_of_ble_eq_true rfl⟩ hf0 rfl (Nat.le_of_ble_eq_true rfl) zd_M_literalElement_26 rfl ?_
      refine G_iload_n F zd_M_literalElement_29 rfl (j := 3) rfl ?_
      refine G_bipush (v := (59 : Int32)) F zd_M_literalElement_30 (by decide) ?_
      obtain ⟨u5, u6, hj40, h⟩ := bc2_s h
      have X40 : G D 4 k 0 0 40 [(0, .ref ma), (1, .int i1), (2, .int i2), (3, .int v1)] [] [(ma, .inr (8, [.int th, .ref mb, .ref mz, .int mc, .int cp, .ref mh, .int bg, .int en, .ref me, .int u5, .int mp, .int fa])), (mb, .inl (cI, 600, .inl u6)), (mz, .inl (cI, 3, .inl sz)), (mh, .inl (cI, 224, .inl hi)), (me, .inl (cI, 32, .inl tb))] := by
        refine G_aload_n F zd_M_literalElement_40 rfl (j := 0) rfl ?_
        refine G_iload_n F zd_M_literalElement_41 rfl (j := 1) rfl ?_
        refine G_iload_n F zd_M_literalElement_42 rfl (j := 2) rfl ?_
        obtain ⟨v9, v10, hc43, h⟩ := bc2_s h
        refine G_callvV F (zk_M_emitLiterals l D cB cI cJ ma mb mz mh me th u6 sz mc cp hi bg en tb u5 mp fa i1 i2 v9 v10 hc43) (rest := []) [0, 1, 2, 3, 4] rfl rfl rfl (ws' := [(ma, .inr (8, [.int th, .ref mb, .ref mz, .int mc, .int cp, .ref mh, .int bg, .int en, .ref me, .int v9, .int mp, .int fa])), (mb, .inl (cI, 600, .inl v10)), (mz, .inl (cI, 3, .inl sz)), (mh, .inl (cI, 224, .inl hi)), (me, .inl (cI, 32, .inl tb))]) rfl (q0 := 0) rfl cv_M_73_M rfl rfl ⟨Nat.le_of_ble_eq_true rfl, Nat.le_of_ble_eq_true rfl⟩ hf0 rfl (Nat.le_of_ble_eq_true rfl) zd_M_literalElement_43 rfl ?_
        obtain ⟨q1, q2⟩ := inj2 h
        subst q1
        subst q2
        exact E 46 _ zd_M_literalElement_46
      have h := hj40
      refine G_icmp_le F zd_M_literalElement_32 (tgt := 40) rfl (fun h0 => ?_) (fun h0 => ?_)
      · have h := iP h h0
        obtain ⟨q1, q2⟩ := inj2 h
        subst q1
        subst q2
        exact G_lv [0, 1, 2, 3] rfl X40
      · have h := iN h h0
        refine G_aload_n F zd_M_literalElement_35 rfl (j := 0) rfl ?_
        refine G_iload_n F zd_M_literalElement_36 rfl (j := 3) rfl ?_
        obtain ⟨v7, v8, hc37, h⟩ := bc2_s h
        refine G_callvV F (zk_M_emit l D cB cI cJ ma mb mz mh me th v4 sz mc cp hi bg en tb v3 mp fa v1 v7 v8 hc37) (rest := []) [0, 1, 2, 3, 4] rfl rfl rfl (ws' := [(ma, .inr (8, [.int th, .ref mb, .ref mz, .int mc, .int cp, .ref mh, .int bg, .int en, .ref me, .int v7, .int mp, .int fa])), (mb, .inl (cI, 600, .inl v8)), (mz, .inl (cI, 3, .inl sz)), (mh, .inl (cI, 224, .inl hi)), (me, .inl (cI, 32, .inl tb))]) rfl (q0 := 0) rfl cv_M_63_M rfl rfl ⟨Nat.le_of_ble_eq_true rfl, Nat.le_of_ble_eq_true rfl⟩ hf0 rfl (Nat.le_of_ble_eq_true rfl) zd_M_literalElement_37 rfl ?_
        obtain ⟨q1, q2⟩ := inj2 h
        subst q1
        subst q2
        exact G_lv [0, 1, 2, 3] rfl X40
    have h := hj24
    refine G_icmp_ge F zd_M_literalElement_15 (tgt := 22) rfl (fun h0 => ?_) (fun h0 => ?_)
    · have h := iP h h0
      refine G_bipush (v := (60 : Int32)) F zd_M_literalElement_22 (by decide) ?_
      have q1 := Option.some.inj h
      subst q1
      exact G_lv [1, 2, 3, 0] rfl X24
    · have h := iN h h0
      refine G_iload_n F zd_M_literalElement_18 rfl (j := 0) rfl ?_
      refine G_goto F zd_M_literalElement_19 (tgt := 24) rfl ?_
      have q1 := Option.some.inj h
      subst q1
      exact G_lv [1, 2, 3, 0] rfl X24
  · have h := iN h h0
    obtain ⟨q1, q2⟩ := inj2 h
    subst q1
    subst q2
    exact E 10 _ zd_M_literalElement_10

set_option maxHeartbeats 4000000 in
set_option maxRecDepth 100000 in
theorem zk_M_copyElement (l : Launch) (D : va_G) (cB cI cJ : ClassId) (ma : Nat) (mb : Nat) (mz : Nat) (mh : Nat) (me : Nat) (th : Int32) (mf : Nat → Int32) (sz : Nat → Int32) (mc : Int32) (cp : Int32) (hi : Nat → Int32) (bg : Int32) (en : Int32) (tb : Nat → Int32) (ou : Int32) (mp : Int32) (fa : Int32) (i1 : Int32) (i2 : Int32) (ou' : Int32) (mf' : Nat → Int32) (h : zf_M_copyElement mf ou i1 i2 = some (ou', mf')) : CoV l zy_M_copyElement zw_M_copyElement { frames := 1, cells := 0, slots := 0, locals := 21 } D cB cI cJ [.ref ma, .int i1, .int i2] [(ma, .inr (8, [.int th, .ref mb, .ref mz, .int mc, .int cp, .ref mh, .int bg, .int en, .ref me, .int ou, .int mp, .int fa])), (mb, .inl (cI, 600, .inl mf)), (mz, .inl (cI, 3, .inl sz)), (mh, .inl (cI, 224, .inl hi)), (me, .inl (cI, 32, .inl tb))] [(ma, .inr (8, [.int th, .ref mb, .ref mz, .int mc, .int cp, .ref mh, .int bg, .int en, .ref me, .int ou', .int mp, .int fa])), (mb, .inl (cI, 600, .inl mf')), (mz, .inl (cI, 3, .inl sz)), (mh, .inl (cI, 224, .inl hi)), (me, .inl (cI, 32, .inl tb))] := by
  unfold zf_M_copyElement at h
  refine CoV.ofG (cc := zc_M_copyElement) (maxL := 3) (own := RX10) (by decide) rfl rfl rfl trivial (Nat.le_of_ble_eq_true rfl) (L0 := [(0, .ref ma), (1, .int i1), (2, .int i2)]) rfl (fun k F E => ?_)
  refine G_iload_n F zd_M_copyElement_0 rfl (j := 1) rfl ?_
  refine G_iconst (v := (3 : Int32)) F zd_M_copyElement_1 (by decide) ?_
  refine G_icmp_le F zd_M_copyElement_2 (tgt := 42) rfl (fun h0 => ?_) (fun h0 => ?_)
  · have h := iP h h0
    refine G_aload_n F zd_M_copyElement_42 rfl (j := 0) rfl ?_
    refine G_iconst (v := (2 : Int32)) F zd_M_copyElement_43 (by decide) ?_
    refine G_iload_n F zd_M_copyElement_44 rfl (j := 1) rfl ?_
    refine G_iconst (v := (1 : Int32)) F zd_M_copyElement_45 (by decide) ?_
    refine G_isub F zd_M_copyElement_46 ?_
    refine G_iconst (v := (2 : Int32)) F zd_M_copyElement_47 (by decide) ?_
    refine G_ishl F zd_M_copyElement_48 ?_
    refine G_ior F zd_M_copyElement_49 ?_
    obtain ⟨v1, v2, hc50, h⟩ := bc2_s h
    refine G_callvV F (zk_M_emit l D cB cI cJ ma mb mz mh me th mf sz mc cp hi bg en tb ou mp fa ((2 : Int32) ||| ((i1 - (1 : Int32)) <<< ((2 : Int32) &&& 31))) v1 v2 hc50) (rest := []) [0, 1, 2, 3, 4] rfl rfl rfl (ws' := [(ma, .inr (8, [.int th, .ref mb, .ref mz, .int mc, .int cp, .ref mh, .int bg, .int en, .ref me, .int v1, .int mp, .int fa])), (mb, .inl (cI, 600, .inl v2)), (mz, .inl (cI, 3, .inl sz)), (mh, .inl (cI, 224, .inl hi)), (me, .inl (cI, 32, .inl tb))]) rfl (q0 := 0) rfl cv_M_63_M rfl rfl ⟨Nat.le_of_ble_eq_true rfl, Nat.le_of_ble_eq_true rfl⟩ hf0 rfl (Nat.le_of_ble_eq_true rfl) zd_M_copyElement_50 rfl ?_
    refine G_aload_n F zd_M_copyElement_53 rfl (j := 0) rfl ?_
    refine G_iload_n F zd_M_copyElement_54 rfl (j := 2) rfl ?_
    obtain ⟨v3, v4, hc55, h⟩ := bc2_s h
    refine G_callvV F (zk_M_emit l D cB cI cJ ma mb mz mh me th v2 sz mc cp hi bg en tb v1 mp fa i2 v3 v4 hc55) (rest := []) [0, 1, 2, 3, 4] rfl rfl rfl (ws' := [(ma, .inr (8, [.int th, .ref mb, .ref mz, .int mc, .int cp, .ref mh, .int bg, .int en, .ref me, .int v3, .int mp, .int fa])), (mb, .inl (cI, 600, .inl v4)), (mz, .inl (cI, 3, .inl sz)), (mh, .inl (cI, 224, .inl hi)), (me, .inl (cI, 32, .inl tb))]) rfl (q0 := 0) rfl cv_M_63_M rfl rfl ⟨Nat.le_of_ble_eq_true rfl, Nat.le_of_ble_eq_true rfl⟩ hf0 rfl (Nat.le_of_ble_eq_true rfl) zd_M_copyElement_55 rfl ?_
    refine G_aload_n F zd_M_copyElement_58 rfl (j := 0) rfl ?_
    refine G_iload_n F zd_M_copyElement_59 rfl (j := 2) rfl ?_
    refine G_bipush (v := (8 : Int32)) F zd_M_copyElement_60 (by decide) ?_
    refine G_ishr F zd_M_copyElement_62 ?_
    obtain ⟨v5, v6, hc63, h⟩ := bc2_s h
    refine G_callvV F (zk_M_emit l D cB cI cJ ma mb mz mh me th v4 sz mc cp hi bg en tb v3 mp fa (i2 >>> ((8 : Int32) &&& 31)) v5 v6 hc63) (rest := []) [0, 1, 2, 3, 4] rfl rfl rfl (ws' := [(ma, .inr (8, [.int th, .ref mb, .ref mz, .int mc, .int cp, .ref mh, .int bg, .int en, .ref me, .int v5, .int mp, .int fa])), (mb, .inl (cI, 600, .inl v6)), (mz, .inl (cI, 3, .inl sz)), (mh, .inl (cI, 224, .inl hi)), (me, .inl (cI, 32, .inl tb))]) rfl (q0 := 0) rfl cv_M_63_M rfl rfl ⟨Nat.le_of_ble_eq_true rfl, Nat.le_of_ble_eq_true rfl⟩ hf0 rfl (Nat.le_of_ble_eq_true rfl) zd_M_copyElement_63 rfl ?_
    obtain ⟨q1, q2⟩ := inj2 h
    subst q1
    subst q2
    exact E 66 _ zd_M_copyElement_66
  · have h := iN h h0
    refine G_iload_n F zd_M_copyElement_5 rfl (j := 1) rfl ?_
    refine G_bipush (v := (12 : Int32)) F zd_M_copyElement_6 (by decide) ?_
    refine G_icmp_ge F zd_M_copyElement_8 (tgt := 42) rfl (fun h0 => ?_) (fun h0 => ?_)
    · have h := iP h h0
      refine G_aload_n F zd_M_copyElement_42 rfl (j := 0) rfl ?_
      refine G_iconst (v := (2 : Int32)) F zd_M_copyElement_43 (by decide) ?_
      refine G_iload_n F zd_M_copyElement_44 rfl (j := 1) rfl ?_
      refine G_iconst (v := (1 : Int32)) F zd_M_copyElement_45 (by decide) ?_
      refine G_isub F zd_M_copyElement_46 ?_
      refine G_iconst (v := (2 : Int32)) F zd_M_copyElement_47 (by decide) ?_
      refine G_ishl F zd_M_copyElement_48 ?_
      refine G_ior F zd_M_copyElement_49 ?_
      obtain ⟨v7, v8, hc50, h⟩ := bc2_s h
      refine G_callvV F (zk_M_emit l D cB cI cJ ma mb mz mh me th mf sz mc cp hi bg en tb ou mp fa ((2 : Int32) ||| ((i1 - (1 : Int32)) <<< ((2 : Int32) &&& 31))) v7 v8 hc50) (rest := []) [0, 1, 2, 3, 4] rfl rfl rfl (ws' := [(ma, .inr (8, [.int th, .ref mb, .ref mz, .int mc, .int cp, .ref mh, .int bg, .int en, .ref me, .int v7, .int mp, .int fa])), (mb, .inl (cI, 600, .inl v8)), (mz, .inl (cI, 3, .inl sz)), (mh, .inl (cI, 224, .inl hi)), (me, .inl (cI, 32, .inl tb))]) rfl (q0 := 0) rfl cv_M_63_M rfl rfl ⟨Nat.le_of_ble_eq_true rfl, Nat.le_of_ble_eq_true rfl⟩ hf0 rfl (Nat.le_of_ble_eq_true rfl) zd_M_copyElement_50 rfl ?_
      refine G_aload_n F zd_M_copyElement_53 rfl (j := 0) rfl ?_
      refine G_iload_n F zd_M_copyElement_54 rfl (j := 2) rfl ?_
      obtain ⟨v9, v10, hc55, h⟩ := bc2_s h
      refine G_callvV F (zk_M_emit l D cB cI cJ ma mb mz mh me th v8 sz mc cp hi bg en tb v7 mp fa i2 v9 v10 hc55) (rest := []) [0, 1, 2, 3, 4] rfl rfl rfl (ws' := [(ma, .inr (8, [.int th, .ref mb, .ref mz, .int mc, .int cp, .ref mh, .int bg, .int en, .ref me, .int v9, .int mp, .int fa])), (mb, .inl (cI, 600, .inl v10)), (mz, .inl (cI, 3, .inl sz)), (mh, .inl (cI, 224, .inl hi)), (me, .inl (cI, 32, .inl tb))]) rfl (q0 := 0) rfl cv_M_63_M rfl rfl ⟨Nat.le_of_ble_eq_true rfl, Nat.le_of_ble_eq_true rfl⟩ hf0 rfl (Nat.le_of_ble_eq_true rfl) zd_M_copyElement_55 rfl ?_
      refine G_aload_n F zd_M_copyElement_58 rfl (j := 0) rfl ?_
      refine G_iload_n F zd_M_copyElement_59 rfl (j := 2) rfl ?_
      refine G_bipush (v := (8 : Int32)) F zd_M_copyElement_60 (by decide) ?_
      refine G_ishr F zd_M_copyElement_62 ?_
      obtain ⟨v11, v12, hc63, h⟩ := bc2_s h
      refine G_callvV F (zk_M_emit l D cB cI cJ ma mb mz mh me th v10 sz mc cp hi bg en tb v9 mp fa (i2 >>> ((8 : Int32) &&& 31)) v11 v12 hc63) (rest := []) [0, 1, 2, 3, 4] rfl rfl rfl (ws' := [(ma, .inr (8, [.int th, .ref mb, .ref mz, .int mc, .int cp, .ref mh, .int bg, .int en, .ref me, .int v11, .int mp, .int fa])), (mb, .inl (cI, 600, .inl v12)), (mz, .inl (cI, 3, .inl sz)), (mh, .inl (cI, 224, .inl hi)), (me, .inl (cI, 32, .inl tb))]) rfl (q0 := 0) rfl cv_M_63_M rfl rfl ⟨Nat.le_of_ble_eq_true rfl, Nat.le_of_ble_eq_true rfl⟩ hf0 rfl (Nat.le_of_ble_eq_true rfl) zd_M_copyElement_63 rfl ?_
      obtain ⟨q1, q2⟩ := inj2 h
      subst q1
      subst q2
      exact E 66 _ zd_M_copyElement_66
    · have h := iN h h0
      refine G_iload_n F zd_M_copyElement_11 rfl (j := 2) rfl ?_
      refine G_sipush (v := (2048 : Int32)) F zd_M_copyElement_12 (by decide) ?_
      refine G_icmp_ge F zd_M_copyElement_15 (tgt := 42) rfl (fun h0 => ?_) (fun h0 => ?_)
      · have h := iP h h0
        refine G_aload_n F zd_M_copyElement_42 rfl (j := 0) rfl ?_
        refine G_iconst (v := (2 : Int32)) F zd_M_copyElement_43 (by decide) ?_
        refine G_iload_n F zd_M_copyElement_44 rfl (j := 1) rfl ?_
        refine G_iconst (v := (1 : Int32)) F zd_M_copyElement_45 (by decide) ?_
        refine G_isub F zd_M_copyElement_46 ?_
        refine G_iconst (v := (2 : Int32)) F zd_M_copyElement_47 (by decide) ?_
        refine G_ishl F zd_M_copyElement_48 ?_
        refine G_ior F zd_M_copyElement_49 ?_
        obtain ⟨v13, v14, hc50, h⟩ := bc2_s h
        refine G_callvV F (zk_M_emit l D cB cI cJ ma mb mz mh me th mf sz mc cp hi bg en tb ou mp fa ((2 : Int32) ||| ((i1 - (1 : Int32)) <<< ((2 : Int32) &&& 31))) v13 v14 hc50) (rest := []) [0, 1, 2, 3, 4] rfl rfl rfl (ws' := [(ma, .inr (8, [.int th, .ref mb, .ref mz, .int mc, .int cp, .ref mh, .int bg, .int en, .ref me, .int v13, .int mp, .int fa])), (mb, .inl (cI, 600, .inl v14)), (mz, .inl (cI, 3, .inl sz)), (mh, .inl (cI, 224, .inl hi)), (me, .inl (cI, 32, .inl tb))]) rfl (q0 := 0) rfl cv_M_63_M rfl rfl ⟨Nat.le_of_ble_eq_true rfl, Nat.le_of_ble_eq_true rfl⟩ hf0 rfl (Nat.le_of_ble_eq_true rfl) zd_M_copyElement_50 rfl ?_
        refine G_aload_n F zd_M_copyElement_53 rfl (j := 0) rfl ?_
        refine G_iload_n F zd_M_copyElement_54 rfl (j := 2) rfl ?_
        obtain ⟨v15, v16, hc55, h⟩ := bc2_s h
        refine G_callvV F (zk_M_emit l D cB cI cJ ma mb mz mh me th v14 sz mc cp hi bg en tb v13 mp fa i2 v15 v16 hc55) (rest := []) [0, 1, 2, 3, 4] rfl rfl rfl (ws' := [(ma, .inr (8, [.int th, .ref mb, .ref mz, .int mc, .int cp, .ref mh, .int bg, .int en, .ref me, .int v15, .int mp, .int fa])), (mb, .inl (cI, 600, .inl v16)), (mz, .inl (cI, 3, .inl sz)), (mh, .inl (cI, 224, .inl hi)), (me, .inl (cI, 32, .inl tb))]) rfl (q0 := 0) rfl cv_M_63_M rfl rfl ⟨Nat.le_of_ble_eq_true rfl, Nat.le_of_ble_eq_true rfl⟩ hf0 rfl (Nat.le_of_ble_eq_true rfl) zd_M_copyElement_55 rfl ?_
        refine G_aload_n F zd_M_copyElement_58 rfl (j := 0) rfl ?_
        refine G_iload_n F zd_M_copyElement_59 rfl (j := 2) rfl ?_
        refine G_bipush (v := (8 : Int32)) F zd_M_copyElement_60 (by decide) ?_
        refine G_ishr F zd_M_copyElement_62 ?_
        obtain ⟨v17, v18, hc63, h⟩ := bc2_s h
        refine G_callvV F (zk_M_emit l D cB cI cJ ma mb mz mh me th v16 sz mc cp hi bg en tb v15 mp fa (i2 >>> ((8 : Int32) &&& 31)) v17 v18 hc63) (rest := []) [0, 1, 2, 3, 4] rfl rfl rfl (ws' := [(ma, .inr (8, [.int th, .ref mb, .ref mz, .int mc, .int cp, .ref mh, .int bg, .int en, .ref me, .int v17, .int mp, .int fa])), (mb, .inl (cI, 600, .inl v18)), (mz, .inl (cI, 3, .inl sz)), (mh, .inl (cI, 224, .inl hi)), (me, .inl (cI, 32, .inl tb))]) rfl (q0 := 0) rfl cv_M_63_M rfl rfl ⟨Nat.le_of_ble_eq_true rfl, Nat.le_of_ble_eq_true rfl⟩ hf0 rfl (Nat.le_of_ble_eq_true rfl) zd_M_copyElement_63 rfl ?_
        obtain ⟨q1, q2⟩ := inj2 h
        subst q1
        subst q2
        exact E 66 _ zd_M_copyElement_66
      · have h := iN h h0
        refine G_aload_n F zd_M_copyElement_18 rfl (j := 0) rfl ?_
        refine G_iconst (v := (1 : Int32)) F zd_M_copyElement_19 (by decide) ?_
        refine G_iload_n F zd_M_copyElement_20 rfl (j := 1) rfl ?_
        refine G_iconst (v := (4 : Int32)) F zd_M_copyElement_21 (by decide) ?_
        refine G_isub F zd_M_copyElement_22 ?_
        refine G_iconst (v := (2 : Int32)) F zd_M_copyElement_23 (by decide) ?_
        refine G_ishl F zd_M_copyElement_24 ?_
        refine G_ior F zd_M_copyElement_25 ?_
        refine G_iload_n F zd_M_copyElement_26 rfl (j := 2) rfl ?_
        refine G_bipush (v := (8 : Int32)) F zd_M_copyElement_27 (by decide) ?_
        refine G_ishr F zd_M_copyElement_29 ?_
        refine G_iconst (v := (5 : Int32)) F zd_M_copyElement_30 (by decide) ?_
        refine G_ishl F zd_M_copyElement_31 ?_
        refine G_ior F zd_M_copyElement_32 ?_
        obtain ⟨v19, v20, hc33, h⟩ := bc2_s h
        refine G_callvV F (zk_M_emit l D cB cI cJ ma mb mz mh me th mf sz mc cp hi bg en tb ou mp fa (((1 : Int32) ||| ((i1 - (4 : Int32)) <<< ((2 : Int32) &&& 31))) ||| ((i2 >>> ((8 : Int32) &&& 31)) <<< ((5 : Int32) &&& 31))) v19 v20 hc33) (rest := []) [0, 1, 2, 3, 4] rfl rfl rfl (ws' := [(ma, .inr (8, [.int th, .ref mb, .ref mz, .int mc, .int cp, .ref mh, .int bg, .int en, .ref me, .int v19, .int mp, .int fa])), (mb, .inl (cI, 600, .inl v20)), (mz, .inl (cI, 3, .inl sz)), (mh, .inl (cI, 224, .inl hi)), (me, .inl (cI, 32, .inl tb))]) rfl (q0 := 0) rfl cv_M_63_M rfl rfl ⟨Nat.le_of_ble_eq_true rfl, Nat.le_of_ble_eq_true rfl⟩ hf0 rfl (Nat.le_of_ble_eq_true rfl) zd_M_copyElement_33 rfl ?_
        refine G_aload_n F zd_M_copyElement_36 rfl (j := 0) rfl ?_
        refine G_iload_n F zd_M_copyElement_37 rfl (j := 2) rfl ?_
        obtain ⟨v21, v22, hc38, h⟩ := bc2_s h
        refine G_callvV F (zk_M_emit l D cB cI cJ ma mb mz mh me th v20 sz mc cp hi bg en tb v19 mp fa i2 v21 v22 hc38) (rest := []) [0, 1, 2, 3, 4] rfl rfl rfl (ws' := [(ma, .inr (8, [.int th, .ref mb, .ref mz, .int mc, .int cp, .ref mh, .int bg, .int en, .ref me, .int v21, .int mp, .int fa])), (mb, .inl (cI, 600, .inl v22)), (mz, .inl (cI, 3, .inl sz)), (mh, .inl (cI, 224, .inl hi)), (me, .inl (cI, 32, .inl tb))]) rfl (q0 := 0) rfl cv_M_63_M rfl rfl ⟨Nat.le_of_ble_eq_true rfl, Nat.le_of_ble_eq_true rfl⟩ hf0 rfl (Nat.le_of_ble_eq_true rfl) zd_M_copyElement_38 rfl ?_
        obtain ⟨q1, q2⟩ := inj2 h
        subst q1
        subst q2
        exact E 41 _ zd_M_copyElement_41

set_option maxHeartbeats 4000000 in
set_option maxRecDepth 100000 in
theorem zl_M_copyElements_2 {k : GC} {l : Launch} {D : va_G} {cB cI cJ : ClassId} (F : GF k l { frames := 2, cells := 0, slots := 0, locals := 43 } zc_M_copyElements 4 RX10 D cB cI cJ) (th : Int32) (sz : Nat → Int32) (mc : Int32) (cp : Int32) (hi : Nat → Int32) (bg : Int32) (en : Int32) (tb : Nat → Int32) (mp : Int32) (fa : Int32) (i1 : Int32) (i2 : Int32) (ma : Nat) (mb : Nat) (mz : Nat) (mh : Nat) (me : Nat) : ∀ (n : Nat) (v1 : Int32) (v2 : Int32) (v3 : Nat → Int32) (w1 : Int32) (w2 : Int32) (w3 : Nat → Int32), zf_M_copyElements_L2 i2 n v1 v2 v3 = some (w1, w2, w3) → G D 4 k 0 0 21 [(0, .ref ma), (1, .int i1), (2, .int i2), (3, .int w1)] [] [(ma, .inr (8, [.int th, .ref mb, .ref mz, .int mc, .int cp, .ref mh, .int bg, .int en, .ref me, .int w2, .int mp, .int fa])), (mb, .inl (cI, 600, .inl w3)), (mz, .inl (cI, 3, .inl sz)), (mh, .inl (cI, 224, .inl hi)), (me, .inl (cI, 32, .inl tb))] → G D 4 k 0 0 2 [(0, .ref ma), (1, .int i1), (2, .int i2), (3, .int v1)] [] [(ma, .inr (8, [.int th, .ref mb, .ref mz, .int mc, .int cp, .ref mh, .int bg, .int en, .ref me, .int v2, .int mp, .int fa])), (mb, .inl (cI, 600, .inl v3)), (mz, .inl (cI, 3, .inl sz)), (mh, .inl (cI, 224, .inl hi)), (me, .inl (cI, 32, .inl tb))] := by
  intro n
  induction n with
  | zero =>
    intro v1 v2 v3 w1 w2 w3 h
    rw [zf_M_copyElements_L2_0] at h
    cases h
  | succ n ih =>
    intro v1 v2 v3 w1 w2 w3 h hx
    have h := (zf_M_copyElements_L2_s i2 n v1 v2 v3).symm.trans h
    refine G_iload_n F zd_M_copyElements_2 rfl (j := 3) rfl ?_
    refine G_bipush (v := (68 : Int32)) F zd_M_copyElements_3 (by decide) ?_
    refine G_icmp_lt F zd_M_copyElements_5 (tgt := 21) rfl (fun h0 => ?_) (fun h0 => ?_)
    · have h := iP h h0
      obtain ⟨q1, q2, q3⟩ := inj3 h
      subst q1
      subst q2
      subst q3
      exact G_lv [0, 1, 2, 3] rfl hx
    · have h := iN h h0
      refine G_aload_n F zd_M_copyElements_8 rfl (j := 0) rfl ?_
      refine G_bipush (v := (64 : Int32)) F zd_M_copyElements_9 (by decide) ?_
      refine G_iload_n F zd_M_copyElements_11 rfl (j := 2) rfl ?_
      obtain ⟨v4, v5, hc12, h⟩ := bc2_s h
      refine G_callvV F (zk_M_copyElement l D cB cI cJ ma mb mz mh me th v3 sz mc cp hi bg en tb v2 mp fa (64 : Int32) i2 v4 v5 hc12) (rest := []) [0, 1, 2, 3, 4] rfl rfl rfl (ws' := [(ma, .inr (8, [.int th, .ref mb, .ref mz, .int mc, .int cp, .ref mh, .int bg, .int en, .ref me, .int v4, .int mp, .int fa])), (mb, .inl (cI, 600, .inl v5)), (mz, .inl (cI, 3, .inl sz)), (mh, .inl (cI, 224, .inl hi)), (me, .inl (cI, 32, .inl tb))]) rfl (q0 := 0) rfl cv_M_77_M rfl rfl ⟨Nat.le_of_ble_eq_true rfl, Nat.le_of_ble_eq_true rfl⟩ hf0 rfl (Nat.le_of_ble_eq_true rfl) zd_M_copyElements_12 rfl ?_
      obtain ⟨v6, ev6, h⟩ := bnd_s h
      refine G_iinc F zd_M_copyElements_15 (j := 3) rfl (w := (-64 : Int32)) (by decide) ev6 (by decide) (L' := [(3, .int v6), (0, .ref ma), (1, .int i1), (2, .int i2)]) rfl ?_
      refine G_goto F zd_M_copyElements_18 (tgt := 2) rfl ?_
      exact G_lv [1, 2, 3, 0] rfl (ih _ _ _ _ _ _ h hx)
set_option maxHeartbeats 4000000 in
set_option maxRecDepth 100000 in
theorem zk_M_copyElements (l : Launch) (D : va_G) (cB cI cJ : ClassId) (ma : Nat) (mb : Nat) (mz : Nat) (mh : Nat) (me : Nat) (th : Int32) (mf : Nat → Int32) (sz : Nat → Int32) (mc : Int32) (cp : Int32) (hi : Nat → Int32) (bg : Int32) (en : Int32) (tb : Nat → Int32) (ou : Int32) (mp : Int32) (fa : Int32) (i1 : Int32) (i2 : Int32) (ou' : Int32) (mf' : Nat → Int32) (h : zf_M_copyElements mf ou i1 i2 = some (ou', mf')) : CoV l zy_M_copyElements zw_M_copyElements { frames := 2, cells := 0, slots := 0, locals := 43 } D cB cI cJ [.ref ma, .int i1, .int i2] [(ma, .inr (8, [.int th, .ref mb, .ref mz, .int mc, .int cp, .ref mh, .int bg, .int en, .ref me, .int ou, .int mp, .int fa])), (mb, .inl (cI, 600, .inl mf)), (mz, .inl (cI, 3, .inl sz)), (mh, .inl (cI, 224, .inl hi)), (me, .inl (cI, 32, .inl tb))] [(ma, .inr (8, [.int th, .ref mb, .ref mz, .int mc, .int cp, .ref mh, .int bg, .int en, .ref me, .int ou', .int mp, .int fa])), (mb, .inl (cI, 600, .inl mf')), (mz, .inl (cI, 3, .inl sz)), (mh, .inl (cI, 224, .inl hi)), (me, .inl (cI, 32, .inl tb))] := by
  unfold zf_M_copyElements at h
  refine CoV.ofG (cc := zc_M_copyElements) (maxL := 4) (own := RX10) (by decide) rfl rfl rfl trivial (Nat.le_of_ble_eq_true rfl) (L0 := [(0, .ref ma), (1, .int i1), (2, .int i2)]) rfl (fun k F E => ?_)
  refine G_iload_n F zd_M_copyElements_0 rfl (j := 1) rfl ?_
  refine G_istore_n F zd_M_copyElements_1 rfl (by decide) (L' := [(3, .int i1), (0, .ref ma), (1, .int i1), (2, .int i2)]) rfl ?_
  obtain ⟨x7, x8, x9, hl2, h⟩ := bc3_s h
  refine G_lv [1, 2, 3, 0] rfl (zl_M_copyElements_2 F th sz mc cp hi bg en tb mp fa i1 i2 ma mb mz mh me 1000 i1 ou mf x7 x8 x9 hl2 ?_)
  refine G_iload_n F zd_M_copyElements_21 rfl (j := 3) rfl ?_
  refine G_bipush (v := (64 : Int32)) F zd_M_copyElements_22 (by decide) ?_
  obtain ⟨u10, u11, u12, hj37, h⟩ := bc3_s h
  have X37 : G D 4 k 0 0 37 [(0, .ref ma), (1, .int i1), (2, .int i2), (3, .int u10)] [] [(ma, .inr (8, [.int th, .ref mb, .ref mz, .int mc, .int cp, .ref mh, .int bg, .int en, .ref me, .int u11, .int mp, .int fa])), (mb, .inl (cI, 600, .inl u12)), (mz, .inl (cI, 3, .inl sz)), (mh, .inl (cI, 224, .inl hi)), (me, .inl (cI, 32, .inl tb))] := by
    refine G_aload_n F zd_M_copyElements_37 rfl (j := 0) rfl ?_
    refine G_iload_n F zd_M_copyElements_38 rfl (j := 3) rfl ?_
    refine G_iload_n F zd_M_copyElements_39 rfl (j := 2) rfl ?_
    obtain ⟨v16, v17, hc40, h⟩ := bc2_s h
    refine G_callvV F (zk_M_copyElement l D cB cI cJ ma mb mz mh me th u12 sz mc cp hi bg en tb u11 mp fa u10 i2 v16 v17 hc40) (rest := []) [0, 1, 2, 3, 4] rfl rfl rfl (ws' := [(ma, .inr (8, [.int th, .ref mb, .ref mz, .int mc, .int cp, .ref mh, .int bg, .int en, .ref me, .int v16, .int mp, .int fa])), (mb, .inl (cI, 600, .inl v17)), (mz, .inl (cI, 3, .inl sz)), (mh, .inl (cI, 224, .inl hi)), (me, .inl (cI, 32, .inl tb))]) rfl (q0 := 0) rfl cv_M_77_M rfl rfl ⟨Nat.le_of_ble_eq_true rfl, Nat.le_of_ble_eq_true rfl⟩ hf0 rfl (Nat.le_of_ble_eq_true rfl) zd_M_copyElements_40 rfl ?_
    obtain ⟨q1, q2⟩ := inj2 h
    subst q1
    subst q2
    exact E 43 _ zd_M_copyElements_43
  have h := hj37
  refine G_icmp_le F zd_M_copyElements_24 (tgt := 37) rfl (fun h0 => ?_) (fun h0 => ?_)
  · have h := iP h h0
    obtain ⟨q1, q2, q3⟩ := inj3 h
    subst q1
    subst q2
    subst q3
    exact G_lv [0, 1, 2, 3] rfl X37
  · have h := iN h h0
    refine G_aload_n F zd_M_copyElements_27 rfl (j := 0) rfl ?_
    refine G_bipush (v := (60 : Int32)) F zd_M_copyElements_28 (by decide) ?_
    refine G_iload_n F zd_M_copyElements_30 rfl (j := 2) rfl ?_
    obtain ⟨v13, v14, hc31, h⟩ := bc2_s h
    refine G_callvV F (zk_M_copyElement l D cB cI cJ ma mb mz mh me th x9 sz mc cp hi bg en tb x8 mp fa (60 : Int32) i2 v13 v14 hc31) (rest := []) [0, 1, 2, 3, 4] rfl rfl rfl (ws' := [(ma, .inr (8, [.int th, .ref mb, .ref mz, .int mc, .int cp, .ref mh, .int bg, .int en, .ref me, .int v13, .int mp, .int fa])), (mb, .inl (cI, 600, .inl v14)), (mz, .inl (cI, 3, .inl sz)), (mh, .inl (cI, 224, .inl hi)), (me, .inl (cI, 32, .inl tb))]) rfl (q0 := 0) rfl cv_M_77_M rfl rfl ⟨Nat.le_of_ble_eq_true rfl, Nat.le_of_ble_eq_true rfl⟩ hf0 rfl (Nat.le_of_ble_eq_true rfl) zd_M_copyElements_31 rfl ?_
    obtain ⟨v15, ev15, h⟩ := bnd_s h
    refine G_iinc F zd_M_copyElements_34 (j := 3) rfl (w := (-60 : Int32)) (by decide) ev15 (by decide) (L' := [(3, .int v15), (0, .ref ma), (1, .int i1), (2, .int i2)]) rfl ?_
    obtain ⟨q1, q2, q3⟩ := inj3 h
    subst q1
    subst q2
    subst q3
    exact G_lv [1, 2, 3, 0] rfl X37

set_option maxHeartbeats 4000000 in
set_option maxRecDepth 100000 in
theorem zl_M_same_2 {k : GC} {l : Launch} {D : va_G} {cB cI cJ : ClassId} (F : GF k l { frames := 0, cells := 0, slots := 0, locals := 0 } zc_M_same 4 RX10 D cB cI cJ) (th : Int32) (mf : Nat → Int32) (sz : Nat → Int32) (mc : Int32) (cp : Int32) (hi : Nat → Int32) (bg : Int32) (en : Int32) (tb : Nat → Int32) (ou : Int32) (mp : Int32) (fa : Int32) (i1 : Int32) (i2 : Int32) (ma : Nat) (mb : Nat) (mz : Nat) (mh : Nat) (me : Nat) : ∀ (n : Nat) (v1 : Int32) (w1 : Int32), zf_M_same_L2 hi en i1 i2 n v1 = some w1 → G D 4 k 0 0 39 [(0, .ref ma), (1, .int i1), (2, .int i2), (3, .int w1)] [] [(ma, .inr (8, [.int th, .ref mb, .ref mz, .int mc, .int cp, .ref mh, .int bg, .int en, .ref me, .int ou, .int mp, .int fa])), (mb, .inl (cI, 600, .inl mf)), (mz, .inl (cI, 3, .inl sz)), (mh, .inl (cI, 224, .inl hi)), (me, .inl (cI, 32, .inl tb))] → G D 4 k 0 0 2 [(0, .ref ma), (1, .int i1), (2, .int i2), (3, .int v1)] [] [(ma, .inr (8, [.int th, .ref mb, .ref mz, .int mc, .int cp, .ref mh, .int bg, .int en, .ref me, .int ou, .int mp, .int fa])), (mb, .inl (cI, 600, .inl mf)), (mz, .inl (cI, 3, .inl sz)), (mh, .inl (cI, 224, .inl hi)), (me, .inl (cI, 32, .inl tb))] := by
  intro n
  induction n with
  | zero =>
    intro v1 w1 h
    rw [zf_M_same_L2_0] at h
    cases h
  | succ n ih =>
    intro v1 w1 h hx
    have h := (zf_M_same_L2_s hi en i1 i2 n v1).symm.trans h
    refine G_iload_n F zd_M_same_2 rfl (j := 2) rfl ?_
    refine G_iload_n F zd_M_same_3 rfl (j := 3) rfl ?_
    refine G_iadd F zd_M_same_4 ?_
    refine G_aload_n F zd_M_same_5 rfl (j := 0) rfl ?_
    refine G_get F fa_M_57_M (q := 0) zd_M_same_6 rfl rfl ?_
    refine G_iconst (v := (5 : Int32)) F zd_M_same_9 (by decide) ?_
    refine G_isub F zd_M_same_10 ?_
    refine G_icmp_ge F zd_M_same_11 (tgt := 39) rfl (fun h0 => ?_) (fun h0 => ?_)
    · have h := iP h h0
      have q1 := Option.some.inj h
      subst q1
      exact G_lv [0, 1, 2, 3] rfl hx
    · have h := iN h h0
      refine G_aload_n F zd_M_same_14 rfl (j := 0) rfl ?_
      refine G_get F fa_M_16_M (q := 0) zd_M_same_15 rfl rfl ?_
      refine G_iload_n F zd_M_same_18 rfl (j := 1) rfl ?_
      refine G_iload_n F zd_M_same_19 rfl (j := 3) rfl ?_
      refine G_iadd F zd_M_same_20 ?_
      obtain ⟨h0, h⟩ := gd_s h
      refine G_iaload F zd_M_same_21 (q := 3) rfl h0 ?_
      refine G_aload_n F zd_M_same_22 rfl (j := 0) rfl ?_
      refine G_get F fa_M_16_M (q := 0) zd_M_same_23 rfl rfl ?_
      refine G_iload_n F zd_M_same_26 rfl (j := 2) rfl ?_
      refine G_iload_n F zd_M_same_27 rfl (j := 3) rfl ?_
      refine G_iadd F zd_M_same_28 ?_
      obtain ⟨h0, h⟩ := gd_s h
      refine G_iaload F zd_M_same_29 (q := 3) rfl h0 ?_
      refine G_icmp_ne F zd_M_same_30 (tgt := 39) rfl (fun h0 => ?_) (fun h0 => ?_)
      · have h := iN h h0
        have q1 := Option.some.inj h
        subst q1
        exact G_lv [0, 1, 2, 3] rfl hx
      · have h := iP h h0
        obtain ⟨v2, ev2, h⟩ := bnd_s h
        refine G_iinc F zd_M_same_33 (j := 3) rfl (w := (1 : Int32)) (by decide) ev2 (by decide) (L' := [(3, .int v2), (0, .ref ma), (1, .int i1), (2, .int i2)]) rfl ?_
        refine G_goto F zd_M_same_36 (tgt := 2) rfl ?_
        exact G_lv [1, 2, 3, 0] rfl (ih _ _ h hx)
set_option maxHeartbeats 4000000 in
set_option maxRecDepth 100000 in
theorem zk_M_same (l : Launch) (D : va_G) (cB cI cJ : ClassId) (ma : Nat) (mb : Nat) (mz : Nat) (mh : Nat) (me : Nat) (th : Int32) (mf : Nat → Int32) (sz : Nat → Int32) (mc : Int32) (cp : Int32) (hi : Nat → Int32) (bg : Int32) (en : Int32) (tb : Nat → Int32) (ou : Int32) (mp : Int32) (fa : Int32) (i1 : Int32) (i2 : Int32) (r : Int32) (h : zf_M_same hi en i1 i2 = some r) : CoI l zy_M_same zw_M_same { frames := 0, cells := 0, slots := 0, locals := 0 } D cB cI cJ [.ref ma, .int i1, .int i2] [(ma, .inr (8, [.int th, .ref mb, .ref mz, .int mc, .int cp, .ref mh, .int bg, .int en, .ref me, .int ou, .int mp, .int fa])), (mb, .inl (cI, 600, .inl mf)), (mz, .inl (cI, 3, .inl sz)), (mh, .inl (cI, 224, .inl hi)), (me, .inl (cI, 32, .inl tb))] r [(ma, .inr (8, [.int th, .ref mb, .ref mz, .int mc, .int cp, .ref mh, .int bg, .int en, .ref me, .int ou, .int mp, .int fa])), (mb, .inl (cI, 600, .inl mf)), (mz, .inl (cI, 3, .inl sz)), (mh, .inl (cI, 224, .inl hi)), (me, .inl (cI, 32, .inl tb))] := by
  unfold zf_M_same at h
  refine CoI.ofG (cc := zc_M_same) (maxL := 4) (own := RX10) (by decide) rfl rfl rfl trivial (Nat.le_of_ble_eq_true rfl) (L0 := [(0, .ref ma), (1, .int i1), (2, .int i2)]) rfl (fun k F E => ?_)
  refine G_iconst (v := (0 : Int32)) F zd_M_same_0 (by decide) ?_
  refine G_istore_n F zd_M_same_1 rfl (by decide) (L' := [(3, .int (0 : Int32)), (0, .ref ma), (1, .int i1), (2, .int i2)]) rfl ?_
  obtain ⟨x3, hl2, h⟩ := bc1_s h
  refine G_lv [1, 2, 3, 0] rfl (zl_M_same_2 F th mf sz mc cp hi bg en tb ou mp fa i1 i2 ma mb mz mh me 1000 (0 : Int32) x3 hl2 ?_)
  refine G_iload_n F zd_M_same_39 rfl (j := 3) rfl ?_
  have q1 := Option.some.inj h
  subst q1
  exact E 40 _ zd_M_same_40

set_option maxHeartbeats 4000000 in
set_option maxRecDepth 100000 in
theorem zl_M_packs_2 {k : GC} {l : Launch} {D : va_G} {cB cI cJ : ClassId} (F : GF k l { frames := 3, cells := 0, slots := 0, locals := 69 } zc_M_packs 7 RX10 D cB cI cJ) (th : Int32) (mf : Nat → Int32) (sz : Nat → Int32) (mc : Int32) (cp : Int32) (hi : Nat → Int32) (bg : Int32) (en : Int32) (ou : Int32) (mp : Int32) (fa : Int32) (i1 : Int32) (ma : Nat) (mb : Nat) (mz : Nat) (mh : Nat) (me : Nat) : ∀ (n : Nat) (v1 : Int32) (v2 : Nat → Int32) (w1 : Int32) (w2 : Nat → Int32), zf_M_packs_L2  n v1 v2 = some (w1, w2) → G D 7 k 0 0 21 [(0, .ref ma), (1, .int i1), (2, .int w1)] [] [(ma, .inr (8, [.int th, .ref mb, .ref mz, .int mc, .int cp, .ref mh, .int bg, .int en, .ref me, .int ou, .int mp, .int fa])), (mb, .inl (cI, 600, .inl mf)), (mz, .inl (cI, 3, .inl sz)), (mh, .inl (cI, 224, .inl hi)), (me, .inl (cI, 32, .inl w2))] → G D 7 k 0 0 2 [(0, .ref ma), (1, .int i1), (2, .int v1)] [] [(ma, .inr (8, [.int th, .ref mb, .ref mz, .int mc, .int cp, .ref mh, .int bg, .int en, .ref me, .int ou, .int mp, .int fa])), (mb, .inl (cI, 600, .inl mf)), (mz, .inl (cI, 3, .inl sz)), (mh, .inl (cI, 224, .inl hi)), (me, .inl (cI, 32, .inl v2))] := by
  intro n
  induction n with
  | zero =>
    intro v1 v2 w1 w2 h
    rw [zf_M_packs_L2_0] at h
    cases h
  | succ n ih =>
    intro v1 v2 w1 w2 h hx
    have h := (zf_M_packs_L2_s  n v1 v2).symm.trans h
    refine G_iload_n F zd_M_packs_2 rfl (j := 2) rfl ?_
    refine G_bipush (v := (32 : Int32)) F zd_M_packs_3 (by decide) ?_
    refine G_icmp_ge F zd_M_packs_5 (tgt := 21) rfl (fun h0 => ?_) (fun h0 => ?_)
    · have h := iP h h0
      obtain ⟨q1, q2⟩ := inj2 h
      subst q1
      subst q2
      exact G_lv [0, 1, 2] rfl hx
    · have h := iN h h0
      refine G_aload_n F zd_M_packs_8 rfl (j := 0) rfl ?_
      refine G_get F fa_M_19_M (q := 0) zd_M_packs_9 rfl rfl ?_
      refine G_iload_n F zd_M_packs_12 rfl (j := 2) rfl ?_
      refine G_iconst (v := (-1 : Int32)) F zd_M_packs_13 (by decide) ?_
      obtain ⟨h0, h⟩ := gd_s h
      obtain ⟨v3, ev3, h⟩ := bnd_s h
      refine G_iastore F zd_M_packs_14 (q := 4) rfl h0 ev3 (ws' := [(ma, .inr (8, [.int th, .ref mb, .ref mz, .int mc, .int cp, .ref mh, .int bg, .int en, .ref me, .int ou, .int mp, .int fa])), (mb, .inl (cI, 600, .inl mf)), (mz, .inl (cI, 3, .inl sz)), (mh, .inl (cI, 224, .inl hi)), (me, .inl (cI, 32, .inl v3))]) rfl ?_
      obtain ⟨v4, ev4, h⟩ := bnd_s h
      refine G_iinc F zd_M_packs_15 (j := 2) rfl (w := (1 : Int32)) (by decide) ev4 (by decide) (L' := [(2, .int v4), (0, .ref ma), (1, .int i1)]) rfl ?_
      refine G_goto F zd_M_packs_18 (tgt := 2) rfl ?_
      exact G_lv [1, 2, 0] rfl (ih _ _ _ _ h hx)
set_option maxHeartbeats 4000000 in
set_option maxRecDepth 100000 in
theorem zl_M_packs_23 {k : GC} {l : Launch} {D : va_G} {cB cI cJ : ClassId} (F : GF k l { frames := 3, cells := 0, slots := 0, locals := 69 } zc_M_packs 7 RX10 D cB cI cJ) (th : Int32) (mf : Nat → Int32) (sz : Nat → Int32) (mc : Int32) (cp : Int32) (hi : Nat → Int32) (bg : Int32) (en : Int32) (ou : Int32) (mp : Int32) (fa : Int32) (i1 : Int32) (ma : Nat) (mb : Nat) (mz : Nat) (mh : Nat) (me : Nat) : ∀ (n : Nat) (v7 : Int32) (v8 : Nat → Int32) (w7 : Int32) (w8 : Nat → Int32), zf_M_packs_L23 hi bg n v7 v8 = some (w7, w8) → G D 7 k 0 0 50 [(0, .ref ma), (1, .int i1), (2, .int w7)] [] [(ma, .inr (8, [.int th, .ref mb, .ref mz, .int mc, .int cp, .ref mh, .int bg, .int en, .ref me, .int ou, .int mp, .int fa])), (mb, .inl (cI, 600, .inl mf)), (mz, .inl (cI, 3, .inl sz)), (mh, .inl (cI, 224, .inl hi)), (me, .inl (cI, 32, .inl w8))] → G D 7 k 0 0 23 [(0, .ref ma), (1, .int i1), (2, .int v7)] [] [(ma, .inr (8, [.int th, .ref mb, .ref mz, .int mc, .int cp, .ref mh, .int bg, .int en, .ref me, .int ou, .int mp, .int fa])), (mb, .inl (cI, 600, .inl mf)), (mz, .inl (cI, 3, .inl sz)), (mh, .inl (cI, 224, .inl hi)), (me, .inl (cI, 32, .inl v8))] := by
  intro n
  induction n with
  | zero =>
    intro v7 v8 w7 w8 h
    rw [zf_M_packs_L23_0] at h
    cases h
  | succ n ih =>
    intro v7 v8 w7 w8 h hx
    have h := (zf_M_packs_L23_s hi bg n v7 v8).symm.trans h
    refine G_iload_n F zd_M_packs_23 rfl (j := 2) rfl ?_
    refine G_iconst (v := (4 : Int32)) F zd_M_packs_24 (by decide) ?_
    refine G_iadd F zd_M_packs_25 ?_
    refine G_aload_n F zd_M_packs_26 rfl (j := 0) rfl ?_
    refine G_get F fa_M_54_M (q := 0) zd_M_packs_27 rfl rfl ?_
    refine G_icmp_gt F zd_M_packs_30 (tgt := 50) rfl (fun h0 => ?_) (fun h0 => ?_)
    · have h := iP h h0
      obtain ⟨q1, q2⟩ := inj2 h
      subst q1
      subst q2
      exact G_lv [0, 1, 2] rfl hx
    · have h := iN h h0
      refine G_aload_n F zd_M_packs_33 rfl (j := 0) rfl ?_
      refine G_get F fa_M_19_M (q := 0) zd_M_packs_34 rfl rfl ?_
      refine G_aload_n F zd_M_packs_37 rfl (j := 0) rfl ?_
      refine G_iload_n F zd_M_packs_38 rfl (j := 2) rfl ?_
      obtain ⟨v9, hc39, h⟩ := bc1_s h
      refine G_calliV0 F (zk_M_slot l D cB cI cJ ma mb mz mh me th mf sz mc cp hi bg en v8 ou mp fa v7 v9 hc39) (rest := [.ref me]) [0, 1, 2, 3, 4] rfl rfl (q0 := 0) rfl cv_M_80_M rfl rfl ⟨Nat.le_of_ble_eq_true rfl, Nat.le_of_ble_eq_true rfl⟩ hf0 rfl (Nat.le_of_ble_eq_true rfl) zd_M_packs_39 rfl ?_
      refine G_iload_n F zd_M_packs_42 rfl (j := 2) rfl ?_
      obtain ⟨h0, h⟩ := gd_s h
      obtain ⟨v10, ev10, h⟩ := bnd_s h
      refine G_iastore F zd_M_packs_43 (q := 4) rfl h0 ev10 (ws' := [(ma, .inr (8, [.int th, .ref mb, .ref mz, .int mc, .int cp, .ref mh, .int bg, .int en, .ref me, .int ou, .int mp, .int fa])), (mb, .inl (cI, 600, .inl mf)), (mz, .inl (cI, 3, .inl sz)), (mh, .inl (cI, 224, .inl hi)), (me, .inl (cI, 32, .inl v10))]) rfl ?_
      obtain ⟨v11, ev11, h⟩ := bnd_s h
      refine G_iinc F zd_M_packs_44 (j := 2) rfl (w := (1 : Int32)) (by decide) ev11 (by decide) (L' := [(2, .int v11), (0, .ref ma), (1, .int i1)]) rfl ?_
      refine G_goto F zd_M_packs_47 (tgt := 23) rfl ?_
      exact G_lv [1, 2, 0] rfl (ih _ _ _ _ h hx)
set_option maxHeartbeats 4000000 in
set_option maxRecDepth 100000 in
theorem zl_M_packs_60 {k : GC} {l : Launch} {D : va_G} {cB cI cJ : ClassId} (F : GF k l { frames := 3, cells := 0, slots := 0, locals := 69 } zc_M_packs 7 RX10 D cB cI cJ) (th : Int32) (sz : Nat → Int32) (hi : Nat → Int32) (bg : Int32) (en : Int32) (mp : Int32) (fa : Int32) (i1 : Int32) (ma : Nat) (mb : Nat) (mz : Nat) (mh : Nat) (me : Nat) : ∀ (n : Nat) (v14 : Int32) (v15 : Int32) (v16 : Int32) (v17 : Int32) (v18 : Int32) (v19 : Nat → Int32) (v20 : Nat → Int32) (w14 : Int32) (w15 : Int32) (w16 : Int32) (w17 : Int32) (w18 : Int32) (w19 : Nat → Int32) (w20 : Nat → Int32), zf_M_packs_L60 hi en i1 n v14 v15 v16 v17 v18 v19 v20 = some (w14, w15, w16, w17, w18, w19, w20) → G D 7 k 0 0 195 [(0, .ref ma), (1, .int i1), (2, .int w14), (3, .int w15)] [] [(ma, .inr (8, [.int th, .ref mb, .ref mz, .int w16, .int w17, .ref mh, .int bg, .int en, .ref me, .int w18, .int mp, .int fa])), (mb, .inl (cI, 600, .inl w19)), (mz, .inl (cI, 3, .inl sz)), (mh, .inl (cI, 224, .inl hi)), (me, .inl (cI, 32, .inl w20))] → G D 7 k 0 0 60 [(0, .ref ma), (1, .int i1), (2, .int v14), (3, .int v15)] [] [(ma, .inr (8, [.int th, .ref mb, .ref mz, .int v16, .int v17, .ref mh, .int bg, .int en, .ref me, .int v18, .int mp, .int fa])), (mb, .inl (cI, 600, .inl v19)), (mz, .inl (cI, 3, .inl sz)), (mh, .inl (cI, 224, .inl hi)), (me, .inl (cI, 32, .inl v20))] := by
  intro n
  induction n with
  | zero =>
    intro v14 v15 v16 v17 v18 v19 v20 w14 w15 w16 w17 w18 w19 w20 h
    rw [zf_M_packs_L60_0] at h
    cases h
  | succ n ih =>
    intro v14 v15 v16 v17 v18 v19 v20 w14 w15 w16 w17 w18 w19 w20 h hx
    have h := (zf_M_packs_L60_s hi en i1 n v14 v15 v16 v17 v18 v19 v20).symm.trans h
    refine G_aload_n F zd_M_packs_60 rfl (j := 0) rfl ?_
    refine G_get F fa_M_57_M (q := 0) zd_M_packs_61 rfl rfl ?_
    refine G_iload_n F zd_M_packs_64 rfl (j := 3) rfl ?_
    refine G_isub F zd_M_packs_65 ?_
    refine G_bipush (v := (12 : Int32)) F zd_M_packs_66 (by decide) ?_
    refine G_icmp_lt F zd_M_packs_68 (tgt := 195) rfl (fun h0 => ?_) (fun h0 => ?_)
    · have h := iP h h0
      obtain ⟨q1, q2, q3, q4, q5, q6, q7⟩ := inj7 h
      subst q1
      subst q2
      subst q3
      subst q4
      subst q5
      subst q6
      subst q7
      exact G_lv [0, 1, 2, 3] rfl hx
    · have h := iN h h0
      refine G_aload_n F zd_M_packs_71 rfl (j := 0) rfl ?_
      refine G_iload_n F zd_M_packs_72 rfl (j := 3) rfl ?_
      obtain ⟨v21, hc73, h⟩ := bc1_s h
      refine G_calliV0 F (zk_M_slot l D cB cI cJ ma mb mz mh me th v19 sz v16 v17 hi bg en v20 v18 mp fa v15 v21 hc73) (rest := []) [0, 1, 2, 3, 4] rfl rfl (q0 := 0) rfl cv_M_80_M rfl rfl ⟨Nat.le_of_ble_eq_true rfl, Nat.le_of_ble_eq_true rfl⟩ hf0 rfl (Nat.le_of_ble_eq_true rfl) zd_M_packs_73 rfl ?_
      refine G_istore F zd_M_packs_76 (by decide) (L' := [(4, .int v21), (0, .ref ma), (1, .int i1), (2, .int v14), (3, .int v15)]) rfl ?_
      refine G_aload_n F zd_M_packs_78 rfl (j := 1) rfl ?_
      refine G_get F fa_M_19_M (q := 0) zd_M_packs_79 rfl rfl ?_
      refine G_iload F zd_M_packs_82 (j := 0) rfl ?_
      obtain ⟨h0, h⟩ := gd_s h
      refine G_iaload F zd_M_packs_84 (q := 4) rfl h0 ?_
      obtain ⟨v22, ev22, h⟩ := bnd_s h
      refine G_topi ev22 ?_
      refine G_istore F zd_M_packs_85 (by decide) (L' := [(5, .int v22), (4, .int v21), (0, .ref ma), (1, .int i1), (2, .int v14), (3, .int v15)]) rfl ?_
      refine G_aload_n F zd_M_packs_87 rfl (j := 2) rfl ?_
      refine G_get F fa_M_19_M (q := 0) zd_M_packs_88 rfl rfl ?_
      refine G_iload F zd_M_packs_91 (j := 1) rfl ?_
      refine G_iload_n F zd_M_packs_93 rfl (j := 5) rfl ?_
      obtain ⟨h0, h⟩ := gd_s h
      obtain ⟨v23, ev23, h⟩ := bnd_s h
      refine G_iastore F zd_M_packs_94 (q := 4) rfl h0 ev23 (ws' := [(ma, .inr (8, [.int th, .ref mb, .ref mz, .int v16, .int v17, .ref mh, .int bg, .int en, .ref me, .int v18, .int mp, .int fa])), (mb, .inl (cI, 600, .inl v19)), (mz, .inl (cI, 3, .inl sz)), (mh, .inl (cI, 224, .inl hi)), (me, .inl (cI, 32, .inl v23))]) rfl ?_
      refine G_iload F zd_M_packs_95 (j := 0) rfl ?_
      obtain ⟨u24, u25, u26, u27, u28, u29, hj192, h⟩ := bc6_s h
      have X192 : G D 7 k 0 0 192 [(0, .ref ma), (1, .int i1), (2, .int u24), (3, .int u25), (4, .int v21), (5, .int v22)] [] [(ma, .inr (8, [.int th, .ref mb, .ref mz, .int u26, .int u27, .ref mh, .int bg, .int en, .ref me, .int u28, .int mp, .int fa])), (mb, .inl (cI, 600, .inl u29)), (mz, .inl (cI, 3, .inl sz)), (mh, .inl (cI, 224, .inl hi)), (me, .inl (cI, 32, .inl v23))] := by
        refine G_goto F zd_M_packs_192 (tgt := 60) rfl ?_
        exact G_lv [0, 1, 2, 3] rfl (ih _ _ _ _ _ _ _ _ _ _ _ _ _ _ h hx)
      have h := hj192
      refine G_if_lt F zd_M_packs_97 (tgt := 189) rfl (fun h0 => ?_) (fun h0 => ?_)
      · have h := iP h h0
        obtain ⟨v30, ev30, h⟩ := bnd_s h
        refine G_iinc F zd_M_packs_189 (j := 5) rfl (w := (1 : Int32)) (by decide) ev30 (by decide) (L' := [(3, .int v30), (5, .int v22), (4, .int v21), (0, .ref ma), (1, .int i1), (2, .int v14)]) rfl ?_
        obtain ⟨q1, q2, q3, q4, q5, q6⟩ := inj6 h
        subst q1
        subst q2
        subst q3
        subst q4
        subst q5
        subst q6
        exact G_lv [3, 4, 5, 0, 2, 1] rfl X192
      · have h := iN h h0
        refine G_aload_n F zd_M_packs_100 rfl (j := 2) rfl ?_
        refine G_iload F zd_M_packs_101 (j := 0) rfl ?_
        obtain ⟨v31, hc103, h⟩ := bc1_s h
        refine G_calliV0 F (zk_M_intAt l D cB cI cJ ma mb mz mh me th v19 sz v16 v17 hi bg en v23 v18 mp fa v22 v31 hc103) (rest := []) [0, 1, 2, 3, 4] rfl rfl (q0 := 0) rfl cv_M_50_M rfl rfl ⟨Nat.le_of_ble_eq_true rfl, Nat.le_of_ble_eq_true rfl⟩ hf0 rfl (Nat.le_of_ble_eq_true rfl) zd_M_packs_103 rfl ?_
        refine G_aload_n F zd_M_packs_106 rfl (j := 2) rfl ?_
        refine G_iload_n F zd_M_packs_107 rfl (j := 5) rfl ?_
        obtain ⟨v32, hc108, h⟩ := bc1_s h
        refine G_calliV0 F (zk_M_intAt l D cB cI cJ ma mb mz mh me th v19 sz v16 v17 hi bg en v23 v18 mp fa v15 v32 hc108) (rest := [.int v31]) [0, 1, 2, 3, 4] rfl rfl (q0 := 0) rfl cv_M_50_M rfl rfl ⟨Nat.le_of_ble_eq_true rfl, Nat.le_of_ble_eq_true rfl⟩ hf0 rfl (Nat.le_of_ble_eq_true rfl) zd_M_packs_108 rfl ?_
        refine G_icmp_ne F zd_M_packs_111 (tgt := 189) rfl (fun h0 => ?_) (fun h0 => ?_)
        · have h := iN h h0
          obtain ⟨v33, ev33, h⟩ := bnd_s h
          refine G_iinc F zd_M_packs_189 (j := 5) rfl (w := (1 : Int32)) (by decide) ev33 (by decide) (L' := [(3, .int v33), (5, .int v22), (4, .int v21), (0, .ref ma), (1, .int i1), (2, .int v14)]) rfl ?_
          obtain ⟨q1, q2, q3, q4, q5, q6⟩ := inj6 h
          subst q1
          subst q2
          subst q3
          subst q4
          subst q5
          subst q6
          exact G_lv [3, 4, 5, 0, 2, 1] rfl X192
        · have h := iP h h0
          refine G_aload_n F zd_M_packs_114 rfl (j := 2) rfl ?_
          refine G_iload F zd_M_packs_115 (j := 0) rfl ?_
          refine G_iload_n F zd_M_packs_117 rfl (j := 5) rfl ?_
          obtain ⟨v34, hc118, h⟩ := bc1_s h
          refine G_calliV0 F (zk_M_same l D cB cI cJ ma mb mz mh me th v19 sz v16 v17 hi bg en v23 v18 mp fa v22 v15 v34 hc118) (rest := []) [0, 1, 2, 3, 4] rfl rfl (q0 := 0) rfl cv_M_83_M rfl rfl ⟨Nat.le_of_ble_eq_true rfl, Nat.le_of_ble_eq_true rfl⟩ hf0 rfl (Nat.le_of_ble_eq_true rfl) zd_M_packs_118 rfl ?_
          refine G_istore F zd_M_packs_121 (by decide) (L' := [(6, .int v34), (5, .int v22), (4, .int v21), (0, .ref ma), (1, .int i1), (2, .int v14), (3, .int v15)]) rfl ?_
          refine G_iload_n F zd_M_packs_123 rfl (j := 4) rfl ?_
          obtain ⟨u35, u36, hj158, h⟩ := bc2_s h
          have X158 : G D 7 k 0 0 158 [(0, .ref ma), (1, .int i1), (2, .int v14), (3, .int v15), (4, .int v21), (5, .int v22), (6, .int v34)] [] [(ma, .inr (8, [.int th, .ref mb, .ref mz, .int v16, .int v17, .ref mh, .int bg, .int en, .ref me, .int u35, .int mp, .int fa])), (mb, .inl (cI, 600, .inl u36)), (mz, .inl (cI, 3, .inl sz)), (mh, .inl (cI, 224, .inl hi)), (me, .inl (cI, 32, .inl v23))] := by
            refine G_aload_n F zd_M_packs_158 rfl (j := 0) rfl ?_
            refine G_dup F zd_M_packs_159 rfl ?_
            refine G_get F fa_M_40_M (q := 0) zd_M_packs_160 rfl rfl ?_
            refine G_iconst (v := (1 : Int32)) F zd_M_packs_163 (by decide) ?_
            refine G_iadd F zd_M_packs_164 ?_
            obtain ⟨v43, ev43, h⟩ := bnd_s h
            refine G_topi ev43 ?_
            refine G_put F fp_M_40_M (q := 0) zd_M_packs_165 rfl (Nat.le_of_ble_eq_true rfl) (ws' := [(ma, .inr (8, [.int th, .ref mb, .ref mz, .int v43, .int v17, .ref mh, .int bg, .int en, .ref me, .int u35, .int mp, .int fa])), (mb, .inl (cI, 600, .inl u36)), (mz, .inl (cI, 3, .inl sz)), (mh, .inl (cI, 224, .inl hi)), (me, .inl (cI, 32, .inl v23))]) rfl ?_
            refine G_aload_n F zd_M_packs_168 rfl (j := 0) rfl ?_
            refine G_dup F zd_M_packs_169 rfl ?_
            refine G_get F fa_M_43_M (q := 0) zd_M_packs_170 rfl rfl ?_
            refine G_iload F zd_M_packs_173 (j := 6) rfl ?_
            refine G_iadd F zd_M_packs_175 ?_
            obtain ⟨v44, ev44, h⟩ := bnd_s h
            refine G_topi ev44 ?_
            refine G_put F fp_M_43_M (q := 0) zd_M_packs_176 rfl (Nat.le_of_ble_eq_true rfl) (ws' := [(ma, .inr (8, [.int th, .ref mb, .ref mz, .int v43, .int v44, .ref mh, .int bg, .int en, .ref me, .int u35, .int mp, .int fa])), (mb, .inl (cI, 600, .inl u36)), (mz, .inl (cI, 3, .inl sz)), (mh, .inl (cI, 224, .inl hi)), (me, .inl (cI, 32, .inl v23))]) rfl ?_
            refine G_iload_n F zd_M_packs_179 rfl (j := 3) rfl ?_
            refine G_iload F zd_M_packs_180 (j := 6) rfl ?_
            refine G_iadd F zd_M_packs_182 ?_
            obtain ⟨v45, ev45, h⟩ := bnd_s h
            refine G_topi ev45 ?_
            refine G_istore_n F zd_M_packs_183 rfl (by decide) (L' := [(3, .int v45), (0, .ref ma), (1, .int i1), (2, .int v14), (4, .int v21), (5, .int v22), (6, .int v34)]) rfl ?_
            refine G_iload_n F zd_M_packs_184 rfl (j := 0) rfl ?_
            refine G_istore_n F zd_M_packs_185 rfl (by decide) (L' := [(2, .int v45), (3, .int v45), (0, .ref ma), (1, .int i1), (4, .int v21), (5, .int v22), (6, .int v34)]) rfl ?_
            refine G_goto F zd_M_packs_186 (tgt := 192) rfl ?_
            obtain ⟨q1, q2, q3, q4, q5, q6⟩ := inj6 h
            subst q1
            subst q2
            subst q3
            subst q4
            subst q5
            subst q6
            exact G_lv [2, 3, 0, 1, 4, 5] rfl X192
          have h := hj158
          refine G_if_ne F zd_M_packs_124 (tgt := 142) rfl (fun h0 => ?_) (fun h0 => ?_)
          · have h := iN h h0
            refine G_aload_n F zd_M_packs_142 rfl (j := 3) rfl ?_
            refine G_iload_n F zd_M_packs_143 rfl (j := 5) rfl ?_
            refine G_iload_n F zd_M_packs_144 rfl (j := 6) rfl ?_
            obtain ⟨v37, v38, hc145, h⟩ := bc2_s h
            refine G_callvV F (zk_M_literalElement l D cB cI cJ ma mb mz mh me th v19 sz v16 v17 hi bg en v23 v18 mp fa v14 v15 v37 v38 hc145) (rest := []) [0, 1, 2, 3, 4] rfl rfl rfl (ws' := [(ma, .inr (8, [.int th, .ref mb, .ref mz, .int v16, .int v17, .ref mh, .int bg, .int en, .ref me, .int v37, .int mp, .int fa])), (mb, .inl (cI, 600, .inl v38)), (mz, .inl (cI, 3, .inl sz)), (mh, .inl (cI, 224, .inl hi)), (me, .inl (cI, 32, .inl v23))]) rfl (q0 := 0) rfl cv_M_91_M rfl rfl ⟨Nat.le_of_ble_eq_true rfl, Nat.le_of_ble_eq_true rfl⟩ hf0 rfl (Nat.le_of_ble_eq_true rfl) zd_M_packs_145 rfl ?_
            refine G_aload_n F zd_M_packs_148 rfl (j := 3) rfl ?_
            refine G_iload F zd_M_packs_149 (j := 0) rfl ?_
            refine G_iload_n F zd_M_packs_151 rfl (j := 6) rfl ?_
            refine G_iload F zd_M_packs_152 (j := 1) rfl ?_
            refine G_isub F zd_M_packs_154 ?_
            obtain ⟨v39, v40, hc155, h⟩ := bc2_s h
            refine G_callvV F (zk_M_copyElements l D cB cI cJ ma mb mz mh me th v38 sz v16 v17 hi bg en v23 v37 mp fa v34 (v15 - v22) v39 v40 hc155) (rest := []) [0, 1, 2, 3, 4] rfl rfl rfl (ws' := [(ma, .inr (8, [.int th, .ref mb, .ref mz, .int v16, .int v17, .ref mh, .int bg, .int en, .ref me, .int v39, .int mp, .int fa])), (mb, .inl (cI, 600, .inl v40)), (mz, .inl (cI, 3, .inl sz)), (mh, .inl (cI, 224, .inl hi)), (me, .inl (cI, 32, .inl v23))]) rfl (q0 := 0) rfl cv_M_94_M rfl rfl ⟨Nat.le_of_ble_eq_true rfl, Nat.le_of_ble_eq_true rfl⟩ hf0 rfl (Nat.le_of_ble_eq_true rfl) zd_M_packs_155 rfl ?_
            obtain ⟨q1, q2⟩ := inj2 h
            subst q1
            subst q2
            exact G_lv [3, 4, 5, 6, 2, 1, 0] rfl X158
          · have h := iP h h0
            refine G_aload_n F zd_M_packs_127 rfl (j := 3) rfl ?_
            refine G_iload_n F zd_M_packs_128 rfl (j := 5) rfl ?_
            refine G_iload_n F zd_M_packs_129 rfl (j := 6) rfl ?_
            refine G_iload F zd_M_packs_130 (j := 0) rfl ?_
            refine G_iload_n F zd_M_packs_132 rfl (j := 6) rfl ?_
            refine G_iload F zd_M_packs_133 (j := 1) rfl ?_
            refine G_isub F zd_M_packs_135 ?_
            obtain ⟨v41, v42, hc136, h⟩ := bc2_s h
            refine G_callvV F (zk_M_sequence l D cB cI cJ ma mb mz mh me th v19 sz v16 v17 hi bg en v23 v18 mp fa v14 v15 v34 (v15 - v22) v41 v42 hc136) (rest := []) [0, 1, 2, 3, 4] rfl rfl rfl (ws' := [(ma, .inr (8, [.int th, .ref mb, .ref mz, .int v16, .int v17, .ref mh, .int bg, .int en, .ref me, .int v41, .int mp, .int fa])), (mb, .inl (cI, 600, .inl v42)), (mz, .inl (cI, 3, .inl sz)), (mh, .inl (cI, 224, .inl hi)), (me, .inl (cI, 32, .inl v23))]) rfl (q0 := 0) rfl cv_M_87_M rfl rfl ⟨Nat.le_of_ble_eq_true rfl, Nat.le_of_ble_eq_true rfl⟩ hf0 rfl (Nat.le_of_ble_eq_true rfl) zd_M_packs_136 rfl ?_
            refine G_goto F zd_M_packs_139 (tgt := 158) rfl ?_
            obtain ⟨q1, q2⟩ := inj2 h
            subst q1
            subst q2
            exact G_lv [3, 4, 5, 6, 2, 1, 0] rfl X158
set_option maxHeartbeats 4000000 in
set_option maxRecDepth 100000 in
theorem zk_M_packs (l : Launch) (D : va_G) (cB cI cJ : ClassId) (ma : Nat) (mb : Nat) (mz : Nat) (mh : Nat) (me : Nat) (th : Int32) (mf : Nat → Int32) (sz : Nat → Int32) (mc : Int32) (cp : Int32) (hi : Nat → Int32) (bg : Int32) (en : Int32) (tb : Nat → Int32) (ou : Int32) (mp : Int32) (fa : Int32) (i1 : Int32) (mc' : Int32) (cp' : Int32) (ou' : Int32) (mf' : Nat → Int32) (tb' : Nat → Int32) (h : zf_M_packs mf mc cp hi bg en tb ou i1 = some (mc', cp', ou', mf', tb')) : CoV l zy_M_packs zw_M_packs { frames := 3, cells := 0, slots := 0, locals := 69 } D cB cI cJ [.ref ma, .int i1] [(ma, .inr (8, [.int th, .ref mb, .ref mz, .int mc, .int cp, .ref mh, .int bg, .int en, .ref me, .int ou, .int mp, .int fa])), (mb, .inl (cI, 600, .inl mf)), (mz, .inl (cI, 3, .inl sz)), (mh, .inl (cI, 224, .inl hi)), (me, .inl (cI, 32, .inl tb))] [(ma, .inr (8, [.int th, .ref mb, .ref mz, .int mc', .int cp', .ref mh, .int bg, .int en, .ref me, .int ou', .int mp, .int fa])), (mb, .inl (cI, 600, .inl mf')), (mz, .inl (cI, 3, .inl sz)), (mh, .inl (cI, 224, .inl hi)), (me, .inl (cI, 32, .inl tb'))] := by
  unfold zf_M_packs at h
  refine CoV.ofG (cc := zc_M_packs) (maxL := 7) (own := RX10) (by decide) rfl rfl rfl trivial (Nat.le_of_ble_eq_true rfl) (L0 := [(0, .ref ma), (1, .int i1)]) rfl (fun k F E => ?_)
  refine G_iconst (v := (0 : Int32)) F zd_M_packs_0 (by decide) ?_
  refine G_istore_n F zd_M_packs_1 rfl (by decide) (L' := [(2, .int (0 : Int32)), (0, .ref ma), (1, .int i1)]) rfl ?_
  obtain ⟨x5, x6, hl2, h⟩ := bc2_s h
  refine G_lv [1, 2, 0] rfl (zl_M_packs_2 F th mf sz mc cp hi bg en ou mp fa i1 ma mb mz mh me 1000 (0 : Int32) tb x5 x6 hl2 ?_)
  refine G_iconst (v := (0 : Int32)) F zd_M_packs_21 (by decide) ?_
  refine G_istore_n F zd_M_packs_22 rfl (by decide) (L' := [(2, .int (0 : Int32)), (0, .ref ma), (1, .int i1)]) rfl ?_
  obtain ⟨x12, x13, hl23, h⟩ := bc2_s h
  refine G_lv [1, 2, 0] rfl (zl_M_packs_23 F th mf sz mc cp hi bg en ou mp fa i1 ma mb mz mh me 1000 (0 : Int32) x6 x12 x13 hl23 ?_)
  refine G_aload_n F zd_M_packs_50 rfl (j := 0) rfl ?_
  refine G_get F fa_M_54_M (q := 0) zd_M_packs_51 rfl rfl ?_
  refine G_istore_n F zd_M_packs_54 rfl (by decide) (L' := [(2, .int bg), (0, .ref ma), (1, .int i1)]) rfl ?_
  refine G_aload_n F zd_M_packs_55 rfl (j := 1) rfl ?_
  refine G_get F fa_M_54_M (q := 0) zd_M_packs_56 rfl rfl ?_
  refine G_istore_n F zd_M_packs_59 rfl (by decide) (L' := [(3, .int bg), (2, .int bg), (0, .ref ma), (1, .int i1)]) rfl ?_
  obtain ⟨x46, x47, x48, x49, x50, x51, x52, hl60, h⟩ := bc7_s h
  refine G_lv [2, 3, 1, 0] rfl (zl_M_packs_60 F th sz hi bg en mp fa i1 ma mb mz mh me 1000 bg bg mc cp ou mf x13 x46 x47 x48 x49 x50 x51 x52 hl60 ?_)
  refine G_iload_n F zd_M_packs_195 rfl (j := 1) rfl ?_
  refine G_if_ne F zd_M_packs_196 (tgt := 211) rfl (fun h0 => ?_) (fun h0 => ?_)
  · have h := iN h h0
    refine G_aload_n F zd_M_packs_211 rfl (j := 0) rfl ?_
    refine G_iload_n F zd_M_packs_212 rfl (j := 2) rfl ?_
    refine G_aload_n F zd_M_packs_213 rfl (j := 0) rfl ?_
    refine G_get F fa_M_57_M (q := 0) zd_M_packs_214 rfl rfl ?_
    obtain ⟨v53, v54, hc217, h⟩ := bc2_s h
    refine G_callvV F (zk_M_literalElement l D cB cI cJ ma mb mz mh me th x51 sz x48 x49 hi bg en x52 x50 mp fa x46 en v53 v54 hc217) (rest := []) [0, 1, 2, 3, 4] rfl rfl rfl (ws' := [(ma, .inr (8, [.int th, .ref mb, .ref mz, .int x48, .int x49, .ref mh, .int bg, .int en, .ref me, .int v53, .int mp, .int fa])), (mb, .inl (cI, 600, .inl v54)), (mz, .inl (cI, 3, .inl sz)), (mh, .inl (cI, 224, .inl hi)), (me, .inl (cI, 32, .inl x52))]) rfl (q0 := 0) rfl cv_M_91_M rfl rfl ⟨Nat.le_of_ble_eq_true rfl, Nat.le_of_ble_eq_true rfl⟩ hf0 rfl (Nat.le_of_ble_eq_true rfl) zd_M_packs_217 rfl ?_
    obtain ⟨q1, q2, q3, q4, q5⟩ := inj5 h
    subst q1
    subst q2
    subst q3
    subst q4
    subst q5
    exact E 220 _ zd_M_packs_220
  · have h := iP h h0
    refine G_aload_n F zd_M_packs_199 rfl (j := 0) rfl ?_
    refine G_iload_n F zd_M_packs_200 rfl (j := 2) rfl ?_
    refine G_aload_n F zd_M_packs_201 rfl (j := 0) rfl ?_
    refine G_get F fa_M_57_M (q := 0) zd_M_packs_202 rfl rfl ?_
    obtain ⟨v55, v56, hc205, h⟩ := bc2_s h
    refine G_callvV F (zk_M_lastSequence l D cB cI cJ ma mb mz mh me th x51 sz x48 x49 hi bg en x52 x50 mp fa x46 en v55 v56 hc205) (rest := []) [0, 1, 2, 3, 4] rfl rfl rfl (ws' := [(ma, .inr (8, [.int th, .ref mb, .ref mz, .int x48, .int x49, .ref mh, .int bg, .int en, .ref me, .int v55, .int mp, .int fa])), (mb, .inl (cI, 600, .inl v56)), (mz, .inl (cI, 3, .inl sz)), (mh, .inl (cI, 224, .inl hi)), (me, .inl (cI, 32, .inl x52))]) rfl (q0 := 0) rfl cv_M_97_M rfl rfl ⟨Nat.le_of_ble_eq_true rfl, Nat.le_of_ble_eq_true rfl⟩ hf0 rfl (Nat.le_of_ble_eq_true rfl) zd_M_packs_205 rfl ?_
    refine G_goto F zd_M_packs_208 (tgt := 220) rfl ?_
    obtain ⟨q1, q2, q3, q4, q5⟩ := inj5 h
    subst q1
    subst q2
    subst q3
    subst q4
    subst q5
    exact E 220 _ zd_M_packs_220

set_option maxHeartbeats 4000000 in
set_option maxRecDepth 100000 in
theorem zl_M_pack_30 {k : GC} {l : Launch} {D : va_G} {cB cI cJ : ClassId} (F : GF k l { frames := 4, cells := 0, slots := 0, locals := 95 } zc_M_pack 3 RX10 D cB cI cJ) (mf : Nat → Int32) (sz : Nat → Int32) (mc : Int32) (cp : Int32) (tb : Nat → Int32) (ou : Int32) (mp : Int32) (fa : Int32) (i1 : Int32) (ma : Nat) (mb : Nat) (mz : Nat) (mh : Nat) (me : Nat) (v3 : Int32) (v4 : Int32) (v5 : Int32) : ∀ (n : Nat) (v7 : Int32) (v8 : Nat → Int32) (w7 : Int32) (w8 : Nat → Int32), zf_M_pack_L30 mf sz v4 n v7 v8 = some (w7, w8) → G D 3 k 0 0 63 [(0, .ref ma), (1, .int i1), (2, .int w7)] [] [(ma, .inr (8, [.int v3, .ref mb, .ref mz, .int mc, .int cp, .ref mh, .int v4, .int v5, .ref me, .int ou, .int mp, .int fa])), (mb, .inl (cI, 600, .inl mf)), (mz, .inl (cI, 3, .inl sz)), (mh, .inl (cI, 224, .inl w8)), (me, .inl (cI, 32, .inl tb))] → G D 3 k 0 0 30 [(0, .ref ma), (1, .int i1), (2, .int v7)] [] [(ma, .inr (8, [.int v3, .ref mb, .ref mz, .int mc, .int cp, .ref mh, .int v4, .int v5, .ref me, .int ou, .int mp, .int fa])), (mb, .inl (cI, 600, .inl mf)), (mz, .inl (cI, 3, .inl sz)), (mh, .inl (cI, 224, .inl v8)), (me, .inl (cI, 32, .inl tb))] := by
  intro n
  induction n with
  | zero =>
    intro v7 v8 w7 w8 h
    rw [zf_M_pack_L30_0] at h
    cases h
  | succ n ih =>
    intro v7 v8 w7 w8 h hx
    have h := (zf_M_pack_L30_s mf sz v4 n v7 v8).symm.trans h
    refine G_iload_n F zd_M_pack_30 rfl (j := 2) rfl ?_
    refine G_aload_n F zd_M_pack_31 rfl (j := 0) rfl ?_
    refine G_get F fa_M_13_M (q := 0) zd_M_pack_32 rfl rfl ?_
    refine G_iconst (v := (0 : Int32)) F zd_M_pack_35 (by decide) ?_
    obtain ⟨h0, h⟩ := gd_s h
    refine G_iaload F zd_M_pack_36 (q := 2) rfl h0 ?_
    refine G_icmp_ge F zd_M_pack_37 (tgt := 63) rfl (fun h0 => ?_) (fun h0 => ?_)
    · have h := iP h h0
      obtain ⟨q1, q2⟩ := inj2 h
      subst q1
      subst q2
      exact G_lv [0, 1, 2] rfl hx
    · have h := iN h h0
      refine G_aload_n F zd_M_pack_40 rfl (j := 0) rfl ?_
      refine G_get F fa_M_16_M (q := 0) zd_M_pack_41 rfl rfl ?_
      refine G_aload_n F zd_M_pack_44 rfl (j := 0) rfl ?_
      refine G_get F fa_M_54_M (q := 0) zd_M_pack_45 rfl rfl ?_
      refine G_iload_n F zd_M_pack_48 rfl (j := 2) rfl ?_
      refine G_iadd F zd_M_pack_49 ?_
      refine G_aload_n F zd_M_pack_50 rfl (j := 0) rfl ?_
      refine G_get F fa_M_7_M (q := 0) zd_M_pack_51 rfl rfl ?_
      refine G_iload_n F zd_M_pack_54 rfl (j := 2) rfl ?_
      obtain ⟨h0, h⟩ := gd_s h
      refine G_iaload F zd_M_pack_55 (q := 1) rfl h0 ?_
      obtain ⟨h0, h⟩ := gd_s h
      obtain ⟨v9, ev9, h⟩ := bnd_s h
      refine G_iastore F zd_M_pack_56 (q := 3) rfl h0 ev9 (ws' := [(ma, .inr (8, [.int v3, .ref mb, .ref mz, .int mc, .int cp, .ref mh, .int v4, .int v5, .ref me, .int ou, .int mp, .int fa])), (mb, .inl (cI, 600, .inl mf)), (mz, .inl (cI, 3, .inl sz)), (mh, .inl (cI, 224, .inl v9)), (me, .inl (cI, 32, .inl tb))]) rfl ?_
      obtain ⟨v10, ev10, h⟩ := bnd_s h
      refine G_iinc F zd_M_pack_57 (j := 2) rfl (w := (1 : Int32)) (by decide) ev10 (by decide) (L' := [(2, .int v10), (0, .ref ma), (1, .int i1)]) rfl ?_
      refine G_goto F zd_M_pack_60 (tgt := 30) rfl ?_
      exact G_lv [1, 2, 0] rfl (ih _ _ _ _ h hx)
set_option maxHeartbeats 4000000 in
set_option maxRecDepth 100000 in
theorem zk_M_pack (l : Launch) (D : va_G) (cB cI cJ : ClassId) (ma : Nat) (mb : Nat) (mz : Nat) (mh : Nat) (me : Nat) (th : Int32) (mf : Nat → Int32) (sz : Nat → Int32) (mc : Int32) (cp : Int32) (hi : Nat → Int32) (bg : Int32) (en : Int32) (tb : Nat → Int32) (ou : Int32) (mp : Int32) (fa : Int32) (i1 : Int32) (r : Int32) (th' : Int32) (mc' : Int32) (cp' : Int32) (bg' : Int32) (en' : Int32) (ou' : Int32) (mf' : Nat → Int32) (sz' : Nat → Int32) (hi' : Nat → Int32) (tb' : Nat → Int32) (h : zf_M_pack mf sz mc cp hi bg en tb ou i1 = some (r, th', mc', cp', bg', en', ou', mf', sz', hi', tb')) : CoI l zy_M_pack zw_M_pack { frames := 4, cells := 0, slots := 0, locals := 95 } D cB cI cJ [.ref ma, .int i1] [(ma, .inr (8, [.int th, .ref mb, .ref mz, .int mc, .int cp, .ref mh, .int bg, .int en, .ref me, .int ou, .int mp, .int fa])), (mb, .inl (cI, 600, .inl mf)), (mz, .inl (cI, 3, .inl sz)), (mh, .inl (cI, 224, .inl hi)), (me, .inl (cI, 32, .inl tb))] r [(ma, .inr (8, [.int th', .ref mb, .ref mz, .int mc', .int cp', .ref mh, .int bg', .int en', .ref me, .int ou', .int mp, .int fa])), (mb, .inl (cI, 600, .inl mf')), (mz, .inl (cI, 3, .inl sz')), (mh, .inl (cI, 224, .inl hi')), (me, .inl (cI, 32, .inl tb'))] := by
  unfold zf_M_pack at h
  refine CoI.ofG (cc := zc_M_pack) (maxL := 3) (own := RX10) (by decide) rfl rfl rfl trivial (Nat.le_of_ble_eq_true rfl) (L0 := [(0, .ref ma), (1, .int i1)]) rfl (fun k F E => ?_)
  refine G_aload_n F zd_M_pack_0 rfl (j := 0) rfl ?_
  refine G_iload_n F zd_M_pack_1 rfl (j := 1) rfl ?_
  obtain ⟨u1, hj15, h⟩ := bc1_s h
  have X15 : G D 3 k 0 0 15 [(0, .ref ma), (1, .int i1)] [.int u1, .ref ma] [(ma, .inr (8, [.int th, .ref mb, .ref mz, .int mc, .int cp, .ref mh, .int bg, .int en, .ref me, .int ou, .int mp, .int fa])), (mb, .inl (cI, 600, .inl mf)), (mz, .inl (cI, 3, .inl sz)), (mh, .inl (cI, 224, .inl hi)), (me, .inl (cI, 32, .inl tb))] := by
    refine G_iconst (v := (0 : Int32)) F zd_M_pack_15 (by decide) ?_
    obtain ⟨v2, v3, hc16, h⟩ := bc2_s h
    refine G_calliV F (zk_M_fails l D cB cI cJ ma mb mz mh me th mf sz mc cp hi bg en tb ou mp fa u1 (0 : Int32) v2 v3 hc16) (rest := []) [0, 1, 2, 3, 4] rfl rfl rfl (ws' := [(ma, .inr (8, [.int v3, .ref mb, .ref mz, .int mc, .int cp, .ref mh, .int bg, .int en, .ref me, .int ou, .int mp, .int fa])), (mb, .inl (cI, 600, .inl mf)), (mz, .inl (cI, 3, .inl sz)), (mh, .inl (cI, 224, .inl hi)), (me, .inl (cI, 32, .inl tb))]) rfl (q0 := 0) rfl cv_M_34_M rfl rfl ⟨Nat.le_of_ble_eq_true rfl, Nat.le_of_ble_eq_true rfl⟩ hf0 rfl (Nat.le_of_ble_eq_true rfl) zd_M_pack_16 rfl ?_
    refine G_if_eq F zd_M_pack_19 (tgt := 24) rfl (fun h0 => ?_) (fun h0 => ?_)
    · have h := iP h h0
      refine G_aload_n F zd_M_pack_24 rfl (j := 0) rfl ?_
      obtain ⟨v4, v5, v6, hc25, h⟩ := bc3_s h
      refine G_callvV F (zk_M_remembers l D cB cI cJ ma mb mz mh me v3 mf sz mc cp hi bg en tb ou mp fa v4 v5 v6 hc25) (rest := []) [0, 1, 2, 3, 4] rfl rfl rfl (ws' := [(ma, .inr (8, [.int v3, .ref mb, .ref mz, .int mc, .int cp, .ref mh, .int v4, .int v5, .ref me, .int ou, .int mp, .int fa])), (mb, .inl (cI, 600, .inl mf)), (mz, .inl (cI, 3, .inl sz)), (mh, .inl (cI, 224, .inl v6)), (me, .inl (cI, 32, .inl tb))]) rfl (q0 := 0) rfl cv_M_100_M rfl rfl ⟨Nat.le_of_ble_eq_true rfl, Nat.le_of_ble_eq_true rfl⟩ hf0 rfl (Nat.le_of_ble_eq_true rfl) zd_M_pack_25 rfl ?_
      refine G_iconst (v := (0 : Int32)) F zd_M_pack_28 (by decide) ?_
      refine G_istore_n F zd_M_pack_29 rfl (by decide) (L' := [(2, .int (0 : Int32)), (0, .ref ma), (1, .int i1)]) rfl ?_
      obtain ⟨x11, x12, hl30, h⟩ := bc2_s h
      refine G_lv [1, 2, 0] rfl (zl_M_pack_30 F mf sz mc cp tb ou mp fa i1 ma mb mz mh me v3 v4 v5 1000 (0 : Int32) v6 x11 x12 hl30 ?_)
      refine G_aload_n F zd_M_pack_63 rfl (j := 0) rfl ?_
      refine G_aload_n F zd_M_pack_64 rfl (j := 0) rfl ?_
      refine G_get F fa_M_54_M (q := 0) zd_M_pack_65 rfl rfl ?_
      refine G_aload_n F zd_M_pack_68 rfl (j := 0) rfl ?_
      refine G_get F fa_M_13_M (q := 0) zd_M_pack_69 rfl rfl ?_
      refine G_iconst (v := (0 : Int32)) F zd_M_pack_72 (by decide) ?_
      obtain ⟨h0, h⟩ := gd_s h
      refine G_iaload F zd_M_pack_73 (q := 2) rfl h0 ?_
      refine G_iadd F zd_M_pack_74 ?_
      obtain ⟨v13, ev13, h⟩ := bnd_s h
      refine G_topi ev13 ?_
      refine G_put F fp_M_57_M (q := 0) zd_M_pack_75 rfl (Nat.le_of_ble_eq_true rfl) (ws' := [(ma, .inr (8, [.int v3, .ref mb, .ref mz, .int mc, .int cp, .ref mh, .int v4, .int v13, .ref me, .int ou, .int mp, .int fa])), (mb, .inl (cI, 600, .inl mf)), (mz, .inl (cI, 3, .inl sz)), (mh, .inl (cI, 224, .inl x12)), (me, .inl (cI, 32, .inl tb))]) rfl ?_
      refine G_aload_n F zd_M_pack_78 rfl (j := 0) rfl ?_
      refine G_iconst (v := (0 : Int32)) F zd_M_pack_79 (by decide) ?_
      refine G_put F fp_M_40_M (q := 0) zd_M_pack_80 rfl (Nat.le_of_ble_eq_true rfl) (ws' := [(ma, .inr (8, [.int v3, .ref mb, .ref mz, .int (0 : Int32), .int cp, .ref mh, .int v4, .int v13, .ref me, .int ou, .int mp, .int fa])), (mb, .inl (cI, 600, .inl mf)), (mz, .inl (cI, 3, .inl sz)), (mh, .inl (cI, 224, .inl x12)), (me, .inl (cI, 32, .inl tb))]) rfl ?_
      refine G_aload_n F zd_M_pack_83 rfl (j := 0) rfl ?_
      refine G_iconst (v := (0 : Int32)) F zd_M_pack_84 (by decide) ?_
      refine G_put F fp_M_43_M (q := 0) zd_M_pack_85 rfl (Nat.le_of_ble_eq_true rfl) (ws' := [(ma, .inr (8, [.int v3, .ref mb, .ref mz, .int (0 : Int32), .int (0 : Int32), .ref mh, .int v4, .int v13, .ref me, .int ou, .int mp, .int fa])), (mb, .inl (cI, 600, .inl mf)), (mz, .inl (cI, 3, .inl sz)), (mh, .inl (cI, 224, .inl x12)), (me, .inl (cI, 32, .inl tb))]) rfl ?_
      refine G_aload_n F zd_M_pack_88 rfl (j := 0) rfl ?_
      refine G_iconst (v := (0 : Int32)) F zd_M_pack_89 (by decide) ?_
      refine G_put F fp_M_60_M (q := 0) zd_M_pack_90 rfl (Nat.le_of_ble_eq_true rfl) (ws' := [(ma, .inr (8, [.int v3, .ref mb, .ref mz, .int (0 : Int32), .int (0 : Int32), .ref mh, .int v4, .int v13, .ref me, .int (0 : Int32), .int mp, .int fa])), (mb, .inl (cI, 600, .inl mf)), (mz, .inl (cI, 3, .inl sz)), (mh, .inl (cI, 224, .inl x12)), (me, .inl (cI, 32, .inl tb))]) rfl ?_
      refine G_iload_n F zd_M_pack_93 rfl (j := 1) rfl ?_
      refine G_iconst (v := (1 : Int32)) F zd_M_pack_94 (by decide) ?_
      obtain ⟨u14, u15, u16, hj142, h⟩ := bc3_s h
      have X142 : G D 3 k 0 0 142 [(0, .ref ma), (1, .int i1), (2, .int u14)] [] [(ma, .inr (8, [.int v3, .ref mb, .ref mz, .int (0 : Int32), .int (0 : Int32), .ref mh, .int v4, .int v13, .ref me, .int u15, .int mp, .int fa])), (mb, .inl (cI, 600, .inl u16)), (mz, .inl (cI, 3, .inl sz)), (mh, .inl (cI, 224, .inl x12)), (me, .inl (cI, 32, .inl tb))] := by
        refine G_aload_n F zd_M_pack_142 rfl (j := 0) rfl ?_
        refine G_iload_n F zd_M_pack_143 rfl (j := 1) rfl ?_
        obtain ⟨v23, v24, v25, v26, v27, hc144, h⟩ := bc5_s h
        refine G_callvV F (zk_M_packs l D cB cI cJ ma mb mz mh me v3 u16 sz (0 : Int32) (0 : Int32) x12 v4 v13 tb u15 mp fa i1 v23 v24 v25 v26 v27 hc144) (rest := []) [0, 1, 2, 3, 4] rfl rfl rfl (ws' := [(ma, .inr (8, [.int v3, .ref mb, .ref mz, .int v23, .int v24, .ref mh, .int v4, .int v13, .ref me, .int v25, .int mp, .int fa])), (mb, .inl (cI, 600, .inl v26)), (mz, .inl (cI, 3, .inl sz)), (mh, .inl (cI, 224, .inl x12)), (me, .inl (cI, 32, .inl v27))]) rfl (q0 := 0) rfl cv_M_103_M rfl rfl ⟨Nat.le_of_ble_eq_true rfl, Nat.le_of_ble_eq_true rfl⟩ hf0 rfl (Nat.le_of_ble_eq_true rfl) zd_M_pack_144 rfl ?_
        refine G_aload_n F zd_M_pack_147 rfl (j := 0) rfl ?_
        refine G_get F fa_M_13_M (q := 0) zd_M_pack_148 rfl rfl ?_
        refine G_iconst (v := (1 : Int32)) F zd_M_pack_151 (by decide) ?_
        refine G_aload_n F zd_M_pack_152 rfl (j := 0) rfl ?_
        refine G_get F fa_M_60_M (q := 0) zd_M_pack_153 rfl rfl ?_
        obtain ⟨h0, h⟩ := gd_s h
        obtain ⟨v28, ev28, h⟩ := bnd_s h
        refine G_iastore F zd_M_pack_156 (q := 2) rfl h0 ev28 (ws' := [(ma, .inr (8, [.int v3, .ref mb, .ref mz, .int v23, .int v24, .ref mh, .int v4, .int v13, .ref me, .int v25, .int mp, .int fa])), (mb, .inl (cI, 600, .inl v26)), (mz, .inl (cI, 3, .inl v28)), (mh, .inl (cI, 224, .inl x12)), (me, .inl (cI, 32, .inl v27))]) rfl ?_
        refine G_aload_n F zd_M_pack_157 rfl (j := 0) rfl ?_
        refine G_get F fa_M_60_M (q := 0) zd_M_pack_158 rfl rfl ?_
        obtain ⟨q1, q2, q3, q4, q5, q6, q7, q8, q9, q10, q11⟩ := inj11 h
        subst q1
        subst q2
        subst q3
        subst q4
        subst q5
        subst q6
        subst q7
        subst q8
        subst q9
        subst q10
        subst q11
        exact E 161 _ zd_M_pack_161
      have h := hj142
      refine G_icmp_ne F zd_M_pack_95 (tgt := 142) rfl (fun h0 => ?_) (fun h0 => ?_)
      · have h := iN h h0
        obtain ⟨q1, q2, q3⟩ := inj3 h
        subst q1
        subst q2
        subst q3
        exact G_lv [0, 1, 2] rfl X142
      · have h := iP h h0
        refine G_aload_n F zd_M_pack_98 rfl (j := 0) rfl ?_
        refine G_get F fa_M_13_M (q := 0) zd_M_pack_99 rfl rfl ?_
        refine G_iconst (v := (0 : Int32)) F zd_M_pack_102 (by decide) ?_
        obtain ⟨h0, h⟩ := gd_s h
        refine G_iaload F zd_M_pack_103 (q := 2) rfl h0 ?_
        obtain ⟨v17, ev17, h⟩ := bnd_s h
        refine G_topi ev17 ?_
        refine G_istore_n F zd_M_pack_104 rfl (by decide) (L' := [(2, .int v17), (0, .ref ma), (1, .int i1)]) rfl ?_
        refine G_aload_n F zd_M_pack_105 rfl (j := 1) rfl ?_
        refine G_iload_n F zd_M_pack_106 rfl (j := 0) rfl ?_
        refine G_sipush (v := (128 : Int32)) F zd_M_pack_107 (by decide) ?_
        obtain ⟨u18, hj125, h⟩ := bc1_s h
        have X125 : G D 3 k 0 0 125 [(0, .ref ma), (1, .int i1), (2, .int v17)] [.int u18, .ref ma] [(ma, .inr (8, [.int v3, .ref mb, .ref mz, .int (0 : Int32), .int (0 : Int32), .ref mh, .int v4, .int v13, .ref me, .int (0 : Int32), .int mp, .int fa])), (mb, .inl (cI, 600, .inl mf)), (mz, .inl (cI, 3, .inl sz)), (mh, .inl (cI, 224, .inl x12)), (me, .inl (cI, 32, .inl tb))] := by
          obtain ⟨v19, v20, hc125, h⟩ := bc2_s h
          refine G_callvV F (zk_M_emit l D cB cI cJ ma mb mz mh me v3 mf sz (0 : Int32) (0 : Int32) x12 v4 v13 tb (0 : Int32) mp fa u18 v19 v20 hc125) (rest := []) [0, 1, 2, 3, 4] rfl rfl rfl (ws' := [(ma, .inr (8, [.int v3, .ref mb, .ref mz, .int (0 : Int32), .int (0 : Int32), .ref mh, .int v4, .int v13, .ref me, .int v19, .int mp, .int fa])), (mb, .inl (cI, 600, .inl v20)), (mz, .inl (cI, 3, .inl sz)), (mh, .inl (cI, 224, .inl x12)), (me, .inl (cI, 32, .inl tb))]) rfl (q0 := 0) rfl cv_M_63_M rfl rfl ⟨Nat.le_of_ble_eq_true rfl, Nat.le_of_ble_eq_true rfl⟩ hf0 rfl (Nat.le_of_ble_eq_true rfl) zd_M_pack_125 rfl ?_
          refine G_iload_n F zd_M_pack_128 rfl (j := 2) rfl ?_
          refine G_bipush (v := (127 : Int32)) F zd_M_pack_129 (by decide) ?_
          refine G_icmp_le F zd_M_pack_131 (tgt := 142) rfl (fun h0 => ?_) (fun h0 => ?_)
          · have h := iP h h0
            obtain ⟨q1, q2, q3⟩ := inj3 h
            subst q1
            subst q2
            subst q3
            exact G_lv [0, 1, 2] rfl X142
          · have h := iN h h0
            refine G_aload_n F zd_M_pack_134 rfl (j := 0) rfl ?_
            refine G_iload_n F zd_M_pack_135 rfl (j := 2) rfl ?_
            refine G_bipush (v := (7 : Int32)) F zd_M_pack_136 (by decide) ?_
            refine G_ishr F zd_M_pack_138 ?_
            obtain ⟨v21, v22, hc139, h⟩ := bc2_s h
            refine G_callvV F (zk_M_emit l D cB cI cJ ma mb mz mh me v3 v20 sz (0 : Int32) (0 : Int32) x12 v4 v13 tb v19 mp fa (v17 >>> ((7 : Int32) &&& 31)) v21 v22 hc139) (rest := []) [0, 1, 2, 3, 4] rfl rfl rfl (ws' := [(ma, .inr (8, [.int v3, .ref mb, .ref mz, .int (0 : Int32), .int (0 : Int32), .ref mh, .int v4, .int v13, .ref me, .int v21, .int mp, .int fa])), (mb, .inl (cI, 600, .inl v22)), (mz, .inl (cI, 3, .inl sz)), (mh, .inl (cI, 224, .inl x12)), (me, .inl (cI, 32, .inl tb))]) rfl (q0 := 0) rfl cv_M_63_M rfl rfl ⟨Nat.le_of_ble_eq_true rfl, Nat.le_of_ble_eq_true rfl⟩ hf0 rfl (Nat.le_of_ble_eq_true rfl) zd_M_pack_139 rfl ?_
            obtain ⟨q1, q2, q3⟩ := inj3 h
            subst q1
            subst q2
            subst q3
            exact G_lv [0, 1, 2] rfl X142
        have h := hj125
        refine G_icmp_ge F zd_M_pack_110 (tgt := 117) rfl (fun h0 => ?_) (fun h0 => ?_)
        · have h := iP h h0
          refine G_iload_n F zd_M_pack_117 rfl (j := 0) rfl ?_
          refine G_bipush (v := (127 : Int32)) F zd_M_pack_118 (by decide) ?_
          refine G_iand F zd_M_pack_120 ?_
          refine G_sipush (v := (128 : Int32)) F zd_M_pack_121 (by decide) ?_
          refine G_ior F zd_M_pack_124 ?_
          have q1 := Option.some.inj h
          subst q1
          exact G_lv [1, 2, 0] rfl X125
        · have h := iN h h0
          refine G_iload_n F zd_M_pack_113 rfl (j := 0) rfl ?_
          refine G_goto F zd_M_pack_114 (tgt := 125) rfl ?_
          have q1 := Option.some.inj h
          subst q1
          exact G_lv [1, 2, 0] rfl X125
    · have h := iN h h0
      refine G_iconst (v := (0 : Int32)) F zd_M_pack_22 (by decide) ?_
      obtain ⟨q1, q2, q3, q4, q5, q6, q7, q8, q9, q10, q11⟩ := inj11 h
      subst q1
      subst q2
      subst q3
      subst q4
      subst q5
      subst q6
      subst q7
      subst q8
      subst q9
      subst q10
      subst q11
      exact E 23 _ zd_M_pack_23
  have h := hj15
  refine G_if_eq F zd_M_pack_2 (tgt := 14) rfl (fun h0 => ?_) (fun h0 => ?_)
  · have h := iP h h0
    refine G_iconst (v := (0 : Int32)) F zd_M_pack_14 (by decide) ?_
    have q1 := Option.some.inj h
    subst q1
    exact G_lv [0, 1] rfl X15
  · have h := iN h h0
    refine G_iload_n F zd_M_pack_5 rfl (j := 1) rfl ?_
    refine G_iconst (v := (1 : Int32)) F zd_M_pack_6 (by decide) ?_
    refine G_icmp_eq F zd_M_pack_7 (tgt := 14) rfl (fun h0 => ?_) (fun h0 => ?_)
    · have h := iP h h0
      refine G_iconst (v := (0 : Int32)) F zd_M_pack_14 (by decide) ?_
      have q1 := Option.some.inj h
      subst q1
      exact G_lv [0, 1] rfl X15
    · have h := iN h h0
      refine G_iconst (v := (1 : Int32)) F zd_M_pack_10 (by decide) ?_
      refine G_goto F zd_M_pack_11 (tgt := 15) rfl ?_
      have q1 := Option.some.inj h
      subst q1
      exact G_lv [0, 1] rfl X15

set_option maxHeartbeats 4000000 in
set_option maxRecDepth 100000 in
theorem zk_M_need (l : Launch) (D : va_G) (cB cI cJ : ClassId) (ma : Nat) (mb : Nat) (mz : Nat) (mh : Nat) (me : Nat) (th : Int32) (mf : Nat → Int32) (sz : Nat → Int32) (mc : Int32) (cp : Int32) (hi : Nat → Int32) (bg : Int32) (en : Int32) (tb : Nat → Int32) (ou : Int32) (mp : Int32) (fa : Int32) (i1 : Int32) (i2 : Int32) (fa' : Int32) (h : zf_M_need fa i1 i2 = some fa') : CoV l zy_M_need zw_M_need { frames := 0, cells := 0, slots := 0, locals := 0 } D cB cI cJ [.ref ma, .int i1, .int i2] [(ma, .inr (8, [.int th, .ref mb, .ref mz, .int mc, .int cp, .ref mh, .int bg, .int en, .ref me, .int ou, .int mp, .int fa])), (mb, .inl (cI, 600, .inl mf)), (mz, .inl (cI, 3, .inl sz)), (mh, .inl (cI, 224, .inl hi)), (me, .inl (cI, 32, .inl tb))] [(ma, .inr (8, [.int th, .ref mb, .ref mz, .int mc, .int cp, .ref mh, .int bg, .int en, .ref me, .int ou, .int mp, .int fa'])), (mb, .inl (cI, 600, .inl mf)), (mz, .inl (cI, 3, .inl sz)), (mh, .inl (cI, 224, .inl hi)), (me, .inl (cI, 32, .inl tb))] := by
  unfold zf_M_need at h
  refine CoV.ofG (cc := zc_M_need) (maxL := 3) (own := RX10) (by decide) rfl rfl rfl trivial (Nat.le_of_ble_eq_true rfl) (L0 := [(0, .ref ma), (1, .int i1), (2, .int i2)]) rfl (fun k F E => ?_)
  refine G_aload_n F zd_M_need_0 rfl (j := 0) rfl ?_
  refine G_get F fa_M_106_M (q := 0) zd_M_need_1 rfl rfl ?_
  refine G_if_ge F zd_M_need_4 (tgt := 16) rfl (fun h0 => ?_) (fun h0 => ?_)
  · have h := iP h h0
    have q1 := Option.some.inj h
    subst q1
    exact E 16 _ zd_M_need_16
  · have h := iN h h0
    refine G_iload_n F zd_M_need_7 rfl (j := 1) rfl ?_
    refine G_if_ne F zd_M_need_8 (tgt := 16) rfl (fun h0 => ?_) (fun h0 => ?_)
    · have h := iN h h0
      have q1 := Option.some.inj h
      subst q1
      exact E 16 _ zd_M_need_16
    · have h := iP h h0
      refine G_aload_n F zd_M_need_11 rfl (j := 0) rfl ?_
      refine G_iload_n F zd_M_need_12 rfl (j := 2) rfl ?_
      refine G_put F fp_M_106_M (q := 0) zd_M_need_13 rfl (Nat.le_of_ble_eq_true rfl) (ws' := [(ma, .inr (8, [.int th, .ref mb, .ref mz, .int mc, .int cp, .ref mh, .int bg, .int en, .ref me, .int ou, .int mp, .int i2])), (mb, .inl (cI, 600, .inl mf)), (mz, .inl (cI, 3, .inl sz)), (mh, .inl (cI, 224, .inl hi)), (me, .inl (cI, 32, .inl tb))]) rfl ?_
      have q1 := Option.some.inj h
      subst q1
      exact E 16 _ zd_M_need_16

