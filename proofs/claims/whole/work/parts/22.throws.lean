theorem xp_IA : XP RX9 68 72 zIA := ⟨by decide +kernel, aw_of 262 (by decide +kernel) (by decide +kernel), aw_of 58 (by decide +kernel) (by decide +kernel), by decide +kernel, by decide +kernel, by decide +kernel, Or.inl rfl⟩
theorem xp_IS : XP RX9 79 83 zIS := ⟨by decide +kernel, aw_of 333 (by decide +kernel) (by decide +kernel), aw_of 59 (by decide +kernel) (by decide +kernel), by decide +kernel, by decide +kernel, by decide +kernel, Or.inr rfl⟩
def zf_X_requireFormat_IA (i0 : Int32) : Option (Unit) := if i0 < 0 then some () else if i0 ≤ (1 : Int32) then none else some ()
set_option maxHeartbeats 4000000 in
set_option maxRecDepth 100000 in
theorem zk_X_requireFormat_IA (l : Launch) (hl : l.stackTraces = false) (D : va_G) (cB cI cJ : ClassId) (i0 : Int32) (h : zf_X_requireFormat_IA i0 = some ()) : CoT l zy_X_requireFormat zw_X_requireFormat { frames := 6, cells := 1, slots := 6, locals := 90 } D cB cI cJ [.int i0] [] zIA := by
  unfold zf_X_requireFormat_IA at h
  refine CoT.ofG hl (cc := zc_X_requireFormat) (maxL := 1) (own := RX9) (by decide) rfl rfl ⟨by decide, by decide, by decide, by decide⟩ (Nat.le_of_ble_eq_true rfl) (L0 := [(0, .int i0)]) rfl (fun k F X ET EX => ?_)
  refine G_iload_n F zd_X_requireFormat_0 rfl (j := 0) rfl ?_
  refine G_if_lt F zd_X_requireFormat_1 (tgt := 9) rfl (fun h0 => ?_) (fun h0 => ?_)
  · have h := iP h h0
    exact ET 9 _ _ 68 150 72 "no such format" xp_IA (fun U hU => hU.2.2.2.2.2.2.1) (Nat.le_of_ble_eq_true rfl) zd_X_requireFormat_9 zd_X_requireFormat_12 zd_X_requireFormat_13 zd_X_requireFormat_15 zd_X_requireFormat_18
  · have h := iN h h0
    refine G_iload_n F zd_X_requireFormat_4 rfl (j := 0) rfl ?_
    refine G_iconst (v := (1 : Int32)) F zd_X_requireFormat_5 (by decide) ?_
    refine G_icmp_le F zd_X_requireFormat_6 (tgt := 19) rfl (fun h0 => ?_) (fun h0 => ?_)
    · have h := iP h h0
      cases h
    · have h := iN h h0
      exact ET 9 _ _ 68 150 72 "no such format" xp_IA (fun U hU => hU.2.2.2.2.2.2.1) (Nat.le_of_ble_eq_true rfl) zd_X_requireFormat_9 zd_X_requireFormat_12 zd_X_requireFormat_13 zd_X_requireFormat_15 zd_X_requireFormat_18

def zf_X_rowOf_IA (i1 : Int32) : Option (Unit) := if i1 = 0 then none else if i1 = (1 : Int32) then none else if i1 = (2 : Int32) then none else some ()
set_option maxHeartbeats 4000000 in
set_option maxRecDepth 100000 in
theorem zk_X_rowOf_IA (l : Launch) (hl : l.stackTraces = false) (D : va_G) (cB cI cJ : ClassId) (xa : Nat) (qa : Nat) (qb : Nat) (sa : Nat) (sb : Nat) (pa : Nat) (pb : Nat) (da : Nat) (db : Nat) (ka : Nat) (ha : Nat) (ta : Nat) (wa : Nat) (va : Nat) (hb : Nat) (hc : Nat) (ea : Nat) (ua : Nat) (qn : Int32) (qf : Nat → Int32) (sn : Int32) (sf : Nat → Int32) (pn : Int32) (pf : Nat → Int32) (dn : Int32) (df : Nat → Int32) (tf : Nat → Int32) (an : Int32) (mt : Int32) (co : Int32) (ra : Int32) (rr : Int32) (zra : Int32) (zrr : Int32) (zrp : Int32) (i1 : Int32) (h : zf_X_rowOf_IA i1 = some ()) : CoT l zy_X_rowOf zw_X_rowOf { frames := 6, cells := 1, slots := 6, locals := 90 } D cB cI cJ [.ref xa, .int i1] [(xa, .inr (7, [.ref qa, .ref sa, .ref pa, .ref da, .ref ka, .ref wa, .ref va, .ref ea, .ref ua])), (qa, .inr (4, [.ref qb, .int qn])), (qb, .inl (cB, 160, .inl qf)), (sa, .inr (4, [.ref sb, .int sn])), (sb, .inl (cB, 200, .inl sf)), (pa, .inr (4, [.ref pb, .int pn])), (pb, .inl (cB, 64, .inl pf)), (da, .inr (4, [.ref db, .int dn])), (db, .inl (cB, 160, .inl df)), (ha, .inr (2, [.ref pa, .ref qa])), (ka, .inr (3, [.ref pa, .ref qa, .ref ha, .ref ta, .int an, .int mt, .int co])), (ta, .inl (cI, 32, .inl tf)), (wa, .inr (6, [.ref qa, .ref sa])), (va, .inr (1, [.ref qa, .ref sa])), (hb, .inr (2, [.ref pa, .ref da])), (hc, .inr (2, [.ref pa, .ref da])), (ea, .inr (5, [.ref sa, .ref da, .ref hb, .int ra, .int rr])), (ua, .inr (0, [.ref sa, .ref da, .ref hc, .int zra, .int zrr, .int zrp]))] zIA := by
  unfold zf_X_rowOf_IA at h
  refine CoT.ofG hl (cc := zc_X_rowOf) (maxL := 2) (own := RX9) (by decide) rfl rfl ⟨by decide, by decide, by decide, by decide⟩ (Nat.le_of_ble_eq_true rfl) (L0 := [(0, .ref xa), (1, .int i1)]) rfl (fun k F X ET EX => ?_)
  refine G_iload_n F zd_X_rowOf_0 rfl (j := 1) rfl ?_
  refine G_if_ne F zd_X_rowOf_1 (tgt := 9) rfl (fun h0 => ?_) (fun h0 => ?_)
  · have h := iN h h0
    refine G_iload_n F zd_X_rowOf_9 rfl (j := 1) rfl ?_
    refine G_iconst (v := (1 : Int32)) F zd_X_rowOf_10 (by decide) ?_
    refine G_icmp_ne F zd_X_rowOf_11 (tgt := 19) rfl (fun h0 => ?_) (fun h0 => ?_)
    · have h := iN h h0
      refine G_iload_n F zd_X_rowOf_19 rfl (j := 1) rfl ?_
      refine G_iconst (v := (2 : Int32)) F zd_X_rowOf_20 (by decide) ?_
      refine G_icmp_ne F zd_X_rowOf_21 (tgt := 29) rfl (fun h0 => ?_) (fun h0 => ?_)
      · have h := iN h h0
        exact ET 29 _ _ 68 148 72 "no such row" xp_IA (fun U hU => hU.2.2.2.1) (Nat.le_of_ble_eq_true rfl) zd_X_rowOf_29 zd_X_rowOf_32 zd_X_rowOf_33 zd_X_rowOf_35 zd_X_rowOf_38
      · have h := iP h h0
        refine G_aload_n F zd_X_rowOf_24 rfl (j := 0) rfl ?_
        refine G_get F fa_X_21_X (q := 0) zd_X_rowOf_25 rfl rfl ?_
        cases h
    · have h := iP h h0
      refine G_aload_n F zd_X_rowOf_14 rfl (j := 0) rfl ?_
      refine G_get F fa_X_18_X (q := 0) zd_X_rowOf_15 rfl rfl ?_
      cases h
  · have h := iP h h0
    refine G_aload_n F zd_X_rowOf_4 rfl (j := 0) rfl ?_
    refine G_get F fa_X_14_X (q := 0) zd_X_rowOf_5 rfl rfl ?_
    cases h

def zf_X_put_IA (qn : Int32) (sn : Int32) (pn : Int32) (i1 : Int32) (i4 : Int32) : Option (Unit) := if i1 = 0 then bc0 (zf_X_rowOf_qa i1) fun _ => if i4 < (1 : Int32) then some () else if i4 ≤ (8 : Int32) then bc1 (zf_R_room qn (160)) fun v1 => if i4 ≤ v1 then none else none else some () else if i1 = (1 : Int32) then bc0 (zf_X_rowOf_sa i1) fun _ => if i4 < (1 : Int32) then some () else if i4 ≤ (8 : Int32) then bc1 (zf_R_room sn (200)) fun v2 => if i4 ≤ v2 then none else none else some () else if i1 = (2 : Int32) then bc0 (zf_X_rowOf_pa i1) fun _ => if i4 < (1 : Int32) then some () else if i4 ≤ (8 : Int32) then bc1 (zf_R_room pn (64)) fun v3 => if i4 ≤ v3 then none else none else some () else bc0 (zf_X_rowOf_IA i1) fun _ => some ()
set_option maxHeartbeats 4000000 in
set_option maxRecDepth 100000 in
theorem zk_X_put_IA (l : Launch) (hl : l.stackTraces = false) (D : va_G) (cB cI cJ : ClassId) (xa : Nat) (qa : Nat) (qb : Nat) (sa : Nat) (sb : Nat) (pa : Nat) (pb : Nat) (da : Nat) (db : Nat) (ka : Nat) (ha : Nat) (ta : Nat) (wa : Nat) (va : Nat) (hb : Nat) (hc : Nat) (ea : Nat) (ua : Nat) (qn : Int32) (qf : Nat → Int32) (sn : Int32) (sf : Nat → Int32) (pn : Int32) (pf : Nat → Int32) (dn : Int32) (df : Nat → Int32) (tf : Nat → Int32) (an : Int32) (mt : Int32) (co : Int32) (ra : Int32) (rr : Int32) (zra : Int32) (zrr : Int32) (zrp : Int32) (i1 : Int32) (j2 : Int64) (i4 : Int32) (h : zf_X_put_IA qn sn pn i1 i4 = some ()) : CoT l zy_X_put zw_X_put { frames := 7, cells := 1, slots := 6, locals := 111 } D cB cI cJ [.ref xa, .int i1, .long j2, .int i4] [(xa, .inr (7, [.ref qa, .ref sa, .ref pa, .ref da, .ref ka, .ref wa, .ref va, .ref ea, .ref ua])), (qa, .inr (4, [.ref qb, .int qn])), (qb, .inl (cB, 160, .inl qf)), (sa, .inr (4, [.ref sb, .int sn])), (sb, .inl (cB, 200, .inl sf)), (pa, .inr (4, [.ref pb, .int pn])), (pb, .inl (cB, 64, .inl pf)), (da, .inr (4, [.ref db, .int dn])), (db, .inl (cB, 160, .inl df)), (ha, .inr (2, [.ref pa, .ref qa])), (ka, .inr (3, [.ref pa, .ref qa, .ref ha, .ref ta, .int an, .int mt, .int co])), (ta, .inl (cI, 32, .inl tf)), (wa, .inr (6, [.ref qa, .ref sa])), (va, .inr (1, [.ref qa, .ref sa])), (hb, .inr (2, [.ref pa, .ref da])), (hc, .inr (2, [.ref pa, .ref da])), (ea, .inr (5, [.ref sa, .ref da, .ref hb, .int ra, .int rr])), (ua, .inr (0, [.ref sa, .ref da, .ref hc, .int zra, .int zrr, .int zrp]))] zIA := by
  unfold zf_X_put_IA at h
  refine CoT.ofG hl (cc := zc_X_put) (maxL := 7) (own := RX9) (by decide) rfl rfl ⟨by decide, by decide, by decide, by decide⟩ (Nat.le_of_ble_eq_true rfl) (L0 := [(0, .ref xa), (1, .int i1), (2, .long j2), (4, .int i4)]) rfl (fun k F X ET EX => ?_)
  refine G_aload_n F zd_X_put_0 rfl (j := 0) rfl ?_
  refine G_iload_n F zd_X_put_1 rfl (j := 1) rfl ?_
  by_cases g0 : i1 = 0
  · have h := iP h g0
    obtain ⟨hc2, h⟩ := bc0_s h
    refine G_callrV0 F (zk_X_rowOf_qa l D cB cI cJ xa qa qb sa sb pa pb da db ka ha ta wa va hb hc ea ua qn qf sn sf pn pf dn df tf an mt co ra rr zra zrr zrp i1 hc2) (rest := []) [0, 1, 2, 3, 4, 5, 6, 7, 8, 9, 10, 11, 12, 13, 14, 15, 16, 17] rfl rfl (q0 := 0) rfl cv_X_64_X rfl rfl ⟨Nat.le_of_ble_eq_true rfl, Nat.le_of_ble_eq_true rfl⟩ hf0 rfl (Nat.le_of_ble_eq_true rfl) zd_X_put_2 rfl ?_
    refine G_astore F zd_X_put_5 (by decide) (L' := [(5, .ref qa), (0, .ref xa), (1, .int i1), (2, .long j2), (4, .int i4)]) rfl ?_
    refine G_iload F zd_X_put_7 (j := 4) rfl ?_
    refine G_iconst (v := (1 : Int32)) F zd_X_put_9 (by decide) ?_
    refine G_icmp_lt F zd_X_put_10 (tgt := 20) rfl (fun h0 => ?_) (fun h0 => ?_)
    · have h := iP h h0
      exact ET 20 _ _ 68 70 72 "n is not 1 to 8" xp_IA (fun U hU => hU.2.2.2.2.1) (Nat.le_of_ble_eq_true rfl) zd_X_put_20 zd_X_put_23 zd_X_put_24 zd_X_put_26 zd_X_put_29
    · have h := iN h h0
      refine G_iload F zd_X_put_13 (j := 4) rfl ?_
      refine G_bipush (v := (8 : Int32)) F zd_X_put_15 (by decide) ?_
      refine G_icmp_le F zd_X_put_17 (tgt := 30) rfl (fun h0 => ?_) (fun h0 => ?_)
      · have h := iP h h0
        refine G_iload F zd_X_put_30 (j := 4) rfl ?_
        refine G_aload F zd_X_put_32 (j := 0) rfl ?_
        obtain ⟨v1, hc34, h⟩ := bc1_s h
        refine G_calliV0 F (zk_R_room l D cB cI cJ qa qb qn (160) qf v1 hc34) (rest := [.int i4]) [1, 2] rfl rfl (q0 := 1) rfl cv_X_75_R rfl rfl ⟨Nat.le_of_ble_eq_true rfl, Nat.le_of_ble_eq_true rfl⟩ hf0 rfl (Nat.le_of_ble_eq_true rfl) zd_X_put_34 rfl ?_
        refine G_icmp_le F zd_X_put_37 (tgt := 50) rfl (fun h0 => ?_) (fun h0 => ?_)
        · have h := iP h h0
          cases h
        · have h := iN h h0
          cases h
      · have h := iN h h0
        exact ET 20 _ _ 68 70 72 "n is not 1 to 8" xp_IA (fun U hU => hU.2.2.2.2.1) (Nat.le_of_ble_eq_true rfl) zd_X_put_20 zd_X_put_23 zd_X_put_24 zd_X_put_26 zd_X_put_29
  have h := iN h g0
  by_cases g1 : i1 = (1 : Int32)
  · have h := iP h g1
    obtain ⟨hc2, h⟩ := bc0_s h
    refine G_callrV0 F (zk_X_rowOf_sa l D cB cI cJ xa qa qb sa sb pa pb da db ka ha ta wa va hb hc ea ua qn qf sn sf pn pf dn df tf an mt co ra rr zra zrr zrp i1 hc2) (rest := []) [0, 1, 2, 3, 4, 5, 6, 7, 8, 9, 10, 11, 12, 13, 14, 15, 16, 17] rfl rfl (q0 := 0) rfl cv_X_64_X rfl rfl ⟨Nat.le_of_ble_eq_true rfl, Nat.le_of_ble_eq_true rfl⟩ hf0 rfl (Nat.le_of_ble_eq_true rfl) zd_X_put_2 rfl ?_
    refine G_astore F zd_X_put_5 (by decide) (L' := [(5, .ref sa), (0, .ref xa), (1, .int i1), (2, .long j2), (4, .int i4)]) rfl ?_
    refine G_iload F zd_X_put_7 (j := 4) rfl ?_
    refine G_iconst (v := (1 : Int32)) F zd_X_put_9 (by decide) ?_
    refine G_icmp_lt F zd_X_put_10 (tgt := 20) rfl (fun h0 => ?_) (fun h0 => ?_)
    · have h := iP h h0
      exact ET 20 _ _ 68 70 72 "n is not 1 to 8" xp_IA (fun U hU => hU.2.2.2.2.1) (Nat.le_of_ble_eq_true rfl) zd_X_put_20 zd_X_put_23 zd_X_put_24 zd_X_put_26 zd_X_put_29
    · have h := iN h h0
      refine G_iload F zd_X_put_13 (j := 4) rfl ?_
      refine G_bipush (v := (8 : Int32)) F zd_X_put_15 (by decide) ?_
      refine G_icmp_le F zd_X_put_17 (tgt := 30) rfl (fun h0 => ?_) (fun h0 => ?_)
      · have h := iP h h0
        refine G_iload F zd_X_put_30 (j := 4) rfl ?_
        refine G_aload F zd_X_put_32 (j := 0) rfl ?_
        obtain ⟨v2, hc34, h⟩ := bc1_s h
        refine G_calliV0 F (zk_R_room l D cB cI cJ sa sb sn (200) sf v2 hc34) (rest := [.int i4]) [3, 4] rfl rfl (q0 := 3) rfl cv_X_75_R rfl rfl ⟨Nat.le_of_ble_eq_true rfl, Nat.le_of_ble_eq_true rfl⟩ hf0 rfl (Nat.le_of_ble_eq_true rfl) zd_X_put_34 rfl ?_
        refine G_icmp_le F zd_X_put_37 (tgt := 50) rfl (fun h0 => ?_) (fun h0 => ?_)
        · have h := iP h h0
          cases h
        · have h := iN h h0
          cases h
      · have h := iN h h0
        exact ET 20 _ _ 68 70 72 "n is not 1 to 8" xp_IA (fun U hU => hU.2.2.2.2.1) (Nat.le_of_ble_eq_true rfl) zd_X_put_20 zd_X_put_23 zd_X_put_24 zd_X_put_26 zd_X_put_29
  have h := iN h g1
  by_cases g2 : i1 = (2 : Int32)
  · have h := iP h g2
    obtain ⟨hc2, h⟩ := bc0_s h
    refine G_callrV0 F (zk_X_rowOf_pa l D cB cI cJ xa qa qb sa sb pa pb da db ka ha ta wa va hb hc ea ua qn qf sn sf pn pf dn df tf an mt co ra rr zra zrr zrp i1 hc2) (rest := []) [0, 1, 2, 3, 4, 5, 6, 7, 8, 9, 10, 11, 12, 13, 14, 15, 16, 17] rfl rfl (q0 := 0) rfl cv_X_64_X rfl rfl ⟨Nat.le_of_ble_eq_true rfl, Nat.le_of_ble_eq_true rfl⟩ hf0 rfl (Nat.le_of_ble_eq_true rfl) zd_X_put_2 rfl ?_
    refine G_astore F zd_X_put_5 (by decide) (L' := [(5, .ref pa), (0, .ref xa), (1, .int i1), (2, .long j2), (4, .int i4)]) rfl ?_
    refine G_iload F zd_X_put_7 (j := 4) rfl ?_
    refine G_iconst (v := (1 : Int32)) F zd_X_put_9 (by decide) ?_
    refine G_icmp_lt F zd_X_put_10 (tgt := 20) rfl (fun h0 => ?_) (fun h0 => ?_)
    · have h := iP h h0
      exact ET 20 _ _ 68 70 72 "n is not 1 to 8" xp_IA (fun U hU => hU.2.2.2.2.1) (Nat.le_of_ble_eq_true rfl) zd_X_put_20 zd_X_put_23 zd_X_put_24 zd_X_put_26 zd_X_put_29
    · have h := iN h h0
      refine G_iload F zd_X_put_13 (j := 4) rfl ?_
      refine G_bipush (v := (8 : Int32)) F zd_X_put_15 (by decide) ?_
      refine G_icmp_le F zd_X_put_17 (tgt := 30) rfl (fun h0 => ?_) (fun h0 => ?_)
      · have h := iP h h0
        refine G_iload F zd_X_put_30 (j := 4) rfl ?_
        refine G_aload F zd_X_put_32 (j := 0) rfl ?_
        obtain ⟨v3, hc34, h⟩ := bc1_s h
        refine G_calliV0 F (zk_R_room l D cB cI cJ pa pb pn (64) pf v3 hc34) (rest := [.int i4]) [5, 6] rfl rfl (q0 := 5) rfl cv_X_75_R rfl rfl ⟨Nat.le_of_ble_eq_true rfl, Nat.le_of_ble_eq_true rfl⟩ hf0 rfl (Nat.le_of_ble_eq_true rfl) zd_X_put_34 rfl ?_
        refine G_icmp_le F zd_X_put_37 (tgt := 50) rfl (fun h0 => ?_) (fun h0 => ?_)
        · have h := iP h h0
          cases h
        · have h := iN h h0
          cases h
      · have h := iN h h0
        exact ET 20 _ _ 68 70 72 "n is not 1 to 8" xp_IA (fun U hU => hU.2.2.2.2.1) (Nat.le_of_ble_eq_true rfl) zd_X_put_20 zd_X_put_23 zd_X_put_24 zd_X_put_26 zd_X_put_29
  have h := iN h g2
  obtain ⟨hc2, h⟩ := bc0_s h
  exact G_xV F X EX (zk_X_rowOf_IA l hl D cB cI cJ xa qa qb sa sb pa pb da db ka ha ta wa va hb hc ea ua qn qf sn sf pn pf dn df tf an mt co ra rr zra zrr zrp i1 hc2) (rest := []) [0, 1, 2, 3, 4, 5, 6, 7, 8, 9, 10, 11, 12, 13, 14, 15, 16, 17] rfl rfl (q0 := 0) rfl cv_X_64_X rfl rfl ⟨Nat.le_of_ble_eq_true rfl, Nat.le_of_ble_eq_true rfl⟩ ⟨Nat.le_of_ble_eq_true rfl, Nat.le_of_ble_eq_true rfl⟩ rfl (Nat.le_of_ble_eq_true rfl) zd_X_put_2 rfl

def zf_X_put_IS (qn : Int32) (sn : Int32) (pn : Int32) (i1 : Int32) (i4 : Int32) : Option (Unit) := if i1 = 0 then bc0 (zf_X_rowOf_qa i1) fun _ => if i4 < (1 : Int32) then none else if i4 ≤ (8 : Int32) then bc1 (zf_R_room qn (160)) fun v1 => if i4 ≤ v1 then none else some () else none else if i1 = (1 : Int32) then bc0 (zf_X_rowOf_sa i1) fun _ => if i4 < (1 : Int32) then none else if i4 ≤ (8 : Int32) then bc1 (zf_R_room sn (200)) fun v2 => if i4 ≤ v2 then none else some () else none else if i1 = (2 : Int32) then bc0 (zf_X_rowOf_pa i1) fun _ => if i4 < (1 : Int32) then none else if i4 ≤ (8 : Int32) then bc1 (zf_R_room pn (64)) fun v3 => if i4 ≤ v3 then none else some () else none else none
set_option maxHeartbeats 4000000 in
set_option maxRecDepth 100000 in
theorem zk_X_put_IS (l : Launch) (hl : l.stackTraces = false) (D : va_G) (cB cI cJ : ClassId) (xa : Nat) (qa : Nat) (qb : Nat) (sa : Nat) (sb : Nat) (pa : Nat) (pb : Nat) (da : Nat) (db : Nat) (ka : Nat) (ha : Nat) (ta : Nat) (wa : Nat) (va : Nat) (hb : Nat) (hc : Nat) (ea : Nat) (ua : Nat) (qn : Int32) (qf : Nat → Int32) (sn : Int32) (sf : Nat → Int32) (pn : Int32) (pf : Nat → Int32) (dn : Int32) (df : Nat → Int32) (tf : Nat → Int32) (an : Int32) (mt : Int32) (co : Int32) (ra : Int32) (rr : Int32) (zra : Int32) (zrr : Int32) (zrp : Int32) (i1 : Int32) (j2 : Int64) (i4 : Int32) (h : zf_X_put_IS qn sn pn i1 i4 = some ()) : CoT l zy_X_put zw_X_put { frames := 6, cells := 1, slots := 6, locals := 90 } D cB cI cJ [.ref xa, .int i1, .long j2, .int i4] [(xa, .inr (7, [.ref qa, .ref sa, .ref pa, .ref da, .ref ka, .ref wa, .ref va, .ref ea, .ref ua])), (qa, .inr (4, [.ref qb, .int qn])), (qb, .inl (cB, 160, .inl qf)), (sa, .inr (4, [.ref sb, .int sn])), (sb, .inl (cB, 200, .inl sf)), (pa, .inr (4, [.ref pb, .int pn])), (pb, .inl (cB, 64, .inl pf)), (da, .inr (4, [.ref db, .int dn])), (db, .inl (cB, 160, .inl df)), (ha, .inr (2, [.ref pa, .ref qa])), (ka, .inr (3, [.ref pa, .ref qa, .ref ha, .ref ta, .int an, .int mt, .int co])), (ta, .inl (cI, 32, .inl tf)), (wa, .inr (6, [.ref qa, .ref sa])), (va, .inr (1, [.ref qa, .ref sa])), (hb, .inr (2, [.ref pa, .ref da])), (hc, .inr (2, [.ref pa, .ref da])), (ea, .inr (5, [.ref sa, .ref da, .ref hb, .int ra, .int rr])), (ua, .inr (0, [.ref sa, .ref da, .ref hc, .int zra, .int zrr, .int zrp]))] zIS := by
  unfold zf_X_put_IS at h
  refine CoT.ofG hl (cc := zc_X_put) (maxL := 7) (own := RX9) (by decide) rfl rfl ⟨by decide, by decide, by decide, by decide⟩ (Nat.le_of_ble_eq_true rfl) (L0 := [(0, .ref xa), (1, .int i1), (2, .long j2), (4, .int i4)]) rfl (fun k F X ET EX => ?_)
  refine G_aload_n F zd_X_put_0 rfl (j := 0) rfl ?_
  refine G_iload_n F zd_X_put_1 rfl (j := 1) rfl ?_
  by_cases g0 : i1 = 0
  · have h := iP h g0
    obtain ⟨hc2, h⟩ := bc0_s h
    refine G_callrV0 F (zk_X_rowOf_qa l D cB cI cJ xa qa qb sa sb pa pb da db ka ha ta wa va hb hc ea ua qn qf sn sf pn pf dn df tf an mt co ra rr zra zrr zrp i1 hc2) (rest := []) [0, 1, 2, 3, 4, 5, 6, 7, 8, 9, 10, 11, 12, 13, 14, 15, 16, 17] rfl rfl (q0 := 0) rfl cv_X_64_X rfl rfl ⟨Nat.le_of_ble_eq_true rfl, Nat.le_of_ble_eq_true rfl⟩ hf0 rfl (Nat.le_of_ble_eq_true rfl) zd_X_put_2 rfl ?_
    refine G_astore F zd_X_put_5 (by decide) (L' := [(5, .ref qa), (0, .ref xa), (1, .int i1), (2, .long j2), (4, .int i4)]) rfl ?_
    refine G_iload F zd_X_put_7 (j := 4) rfl ?_
    refine G_iconst (v := (1 : Int32)) F zd_X_put_9 (by decide) ?_
    refine G_icmp_lt F zd_X_put_10 (tgt := 20) rfl (fun h0 => ?_) (fun h0 => ?_)
    · have h := iP h h0
      cases h
    · have h := iN h h0
      refine G_iload F zd_X_put_13 (j := 4) rfl ?_
      refine G_bipush (v := (8 : Int32)) F zd_X_put_15 (by decide) ?_
      refine G_icmp_le F zd_X_put_17 (tgt := 30) rfl (fun h0 => ?_) (fun h0 => ?_)
      · have h := iP h h0
        refine G_iload F zd_X_put_30 (j := 4) rfl ?_
        refine G_aload F zd_X_put_32 (j := 0) rfl ?_
        obtain ⟨v1, hc34, h⟩ := bc1_s h
        refine G_calliV0 F (zk_R_room l D cB cI cJ qa qb qn (160) qf v1 hc34) (rest := [.int i4]) [1, 2] rfl rfl (q0 := 1) rfl cv_X_75_R rfl rfl ⟨Nat.le_of_ble_eq_true rfl, Nat.le_of_ble_eq_true rfl⟩ hf0 rfl (Nat.le_of_ble_eq_true rfl) zd_X_put_34 rfl ?_
        refine G_icmp_le F zd_X_put_37 (tgt := 50) rfl (fun h0 => ?_) (fun h0 => ?_)
        · have h := iP h h0
          cases h
        · have h := iN h h0
          exact ET 40 _ _ 79 81 83 "no room for all bytes" xp_IS (fun U hU => hU.2.2.2.2.2.1) (Nat.le_of_ble_eq_true rfl) zd_X_put_40 zd_X_put_43 zd_X_put_44 zd_X_put_46 zd_X_put_49
      · have h := iN h h0
        cases h
  have h := iN h g0
  by_cases g1 : i1 = (1 : Int32)
  · have h := iP h g1
    obtain ⟨hc2, h⟩ := bc0_s h
    refine G_callrV0 F (zk_X_rowOf_sa l D cB cI cJ xa qa qb sa sb pa pb da db ka ha ta wa va hb hc ea ua qn qf sn sf pn pf dn df tf an mt co ra rr zra zrr zrp i1 hc2) (rest := []) [0, 1, 2, 3, 4, 5, 6, 7, 8, 9, 10, 11, 12, 13, 14, 15, 16, 17] rfl rfl (q0 := 0) rfl cv_X_64_X rfl rfl ⟨Nat.le_of_ble_eq_true rfl, Nat.le_of_ble_eq_true rfl⟩ hf0 rfl (Nat.le_of_ble_eq_true rfl) zd_X_put_2 rfl ?_
    refine G_astore F zd_X_put_5 (by decide) (L' := [(5, .ref sa), (0, .ref xa), (1, .int i1), (2, .long j2), (4, .int i4)]) rfl ?_
    refine G_iload F zd_X_put_7 (j := 4) rfl ?_
    refine G_iconst (v := (1 : Int32)) F zd_X_put_9 (by decide) ?_
    refine G_icmp_lt F zd_X_put_10 (tgt := 20) rfl (fun h0 => ?_) (fun h0 => ?_)
    · have h := iP h h0
      cases h
    · have h := iN h h0
      refine G_iload F zd_X_put_13 (j := 4) rfl ?_
      refine G_bipush (v := (8 : Int32)) F zd_X_put_15 (by decide) ?_
      refine G_icmp_le F zd_X_put_17 (tgt := 30) rfl (fun h0 => ?_) (fun h0 => ?_)
      · have h := iP h h0
        refine G_iload F zd_X_put_30 (j := 4) rfl ?_
        refine G_aload F zd_X_put_32 (j := 0) rfl ?_
        obtain ⟨v2, hc34, h⟩ := bc1_s h
        refine G_calliV0 F (zk_R_room l D cB cI cJ sa sb sn (200) sf v2 hc34) (rest := [.int i4]) [3, 4] rfl rfl (q0 := 3) rfl cv_X_75_R rfl rfl ⟨Nat.le_of_ble_eq_true rfl, Nat.le_of_ble_eq_true rfl⟩ hf0 rfl (Nat.le_of_ble_eq_true rfl) zd_X_put_34 rfl ?_
        refine G_icmp_le F zd_X_put_37 (tgt := 50) rfl (fun h0 => ?_) (fun h0 => ?_)
        · have h := iP h h0
          cases h
        · have h := iN h h0
          exact ET 40 _ _ 79 81 83 "no room for all bytes" xp_IS (fun U hU => hU.2.2.2.2.2.1) (Nat.le_of_ble_eq_true rfl) zd_X_put_40 zd_X_put_43 zd_X_put_44 zd_X_put_46 zd_X_put_49
      · have h := iN h h0
        cases h
  have h := iN h g1
  by_cases g2 : i1 = (2 : Int32)
  · have h := iP h g2
    obtain ⟨hc2, h⟩ := bc0_s h
    refine G_callrV0 F (zk_X_rowOf_pa l D cB cI cJ xa qa qb sa sb pa pb da db ka ha ta wa va hb hc ea ua qn qf sn sf pn pf dn df tf an mt co ra rr zra zrr zrp i1 hc2) (rest := []) [0, 1, 2, 3, 4, 5, 6, 7, 8, 9, 10, 11, 12, 13, 14, 15, 16, 17] rfl rfl (q0 := 0) rfl cv_X_64_X rfl rfl ⟨Nat.le_of_ble_eq_true rfl, Nat.le_of_ble_eq_true rfl⟩ hf0 rfl (Nat.le_of_ble_eq_true rfl) zd_X_put_2 rfl ?_
    refine G_astore F zd_X_put_5 (by decide) (L' := [(5, .ref pa), (0, .ref xa), (1, .int i1), (2, .long j2), (4, .int i4)]) rfl ?_
    refine G_iload F zd_X_put_7 (j := 4) rfl ?_
    refine G_iconst (v := (1 : Int32)) F zd_X_put_9 (by decide) ?_
    refine G_icmp_lt F zd_X_put_10 (tgt := 20) rfl (fun h0 => ?_) (fun h0 => ?_)
    · have h := iP h h0
      cases h
    · have h := iN h h0
      refine G_iload F zd_X_put_13 (j := 4) rfl ?_
      refine G_bipush (v := (8 : Int32)) F zd_X_put_15 (by decide) ?_
      refine G_icmp_le F zd_X_put_17 (tgt := 30) rfl (fun h0 => ?_) (fun h0 => ?_)
      · have h := iP h h0
        refine G_iload F zd_X_put_30 (j := 4) rfl ?_
        refine G_aload F zd_X_put_32 (j := 0) rfl ?_
        obtain ⟨v3, hc34, h⟩ := bc1_s h
        refine G_calliV0 F (zk_R_room l D cB cI cJ pa pb pn (64) pf v3 hc34) (rest := [.int i4]) [5, 6] rfl rfl (q0 := 5) rfl cv_X_75_R rfl rfl ⟨Nat.le_of_ble_eq_true rfl, Nat.le_of_ble_eq_true rfl⟩ hf0 rfl (Nat.le_of_ble_eq_true rfl) zd_X_put_34 rfl ?_
        refine G_icmp_le F zd_X_put_37 (tgt := 50) rfl (fun h0 => ?_) (fun h0 => ?_)
        · have h := iP h h0
          cases h
        · have h := iN h h0
          exact ET 40 _ _ 79 81 83 "no room for all bytes" xp_IS (fun U hU => hU.2.2.2.2.2.1) (Nat.le_of_ble_eq_true rfl) zd_X_put_40 zd_X_put_43 zd_X_put_44 zd_X_put_46 zd_X_put_49
      · have h := iN h h0
        cases h
  have h := iN h g2
  cases h

def zf_X_empty_IA (i1 : Int32) : Option (Unit) := if i1 = 0 then bc0 (zf_X_rowOf_qa i1) fun _ => none else if i1 = (1 : Int32) then bc0 (zf_X_rowOf_sa i1) fun _ => none else if i1 = (2 : Int32) then bc0 (zf_X_rowOf_pa i1) fun _ => none else bc0 (zf_X_rowOf_IA i1) fun _ => some ()
set_option maxHeartbeats 4000000 in
set_option maxRecDepth 100000 in
theorem zk_X_empty_IA (l : Launch) (hl : l.stackTraces = false) (D : va_G) (cB cI cJ : ClassId) (xa : Nat) (qa : Nat) (qb : Nat) (sa : Nat) (sb : Nat) (pa : Nat) (pb : Nat) (da : Nat) (db : Nat) (ka : Nat) (ha : Nat) (ta : Nat) (wa : Nat) (va : Nat) (hb : Nat) (hc : Nat) (ea : Nat) (ua : Nat) (qn : Int32) (qf : Nat → Int32) (sn : Int32) (sf : Nat → Int32) (pn : Int32) (pf : Nat → Int32) (dn : Int32) (df : Nat → Int32) (tf : Nat → Int32) (an : Int32) (mt : Int32) (co : Int32) (ra : Int32) (rr : Int32) (zra : Int32) (zrr : Int32) (zrp : Int32) (i1 : Int32) (h : zf_X_empty_IA i1 = some ()) : CoT l zy_X_empty zw_X_empty { frames := 7, cells := 1, slots := 6, locals := 111 } D cB cI cJ [.ref xa, .int i1] [(xa, .inr (7, [.ref qa, .ref sa, .ref pa, .ref da, .ref ka, .ref wa, .ref va, .ref ea, .ref ua])), (qa, .inr (4, [.ref qb, .int qn])), (qb, .inl (cB, 160, .inl qf)), (sa, .inr (4, [.ref sb, .int sn])), (sb, .inl (cB, 200, .inl sf)), (pa, .inr (4, [.ref pb, .int pn])), (pb, .inl (cB, 64, .inl pf)), (da, .inr (4, [.ref db, .int dn])), (db, .inl (cB, 160, .inl df)), (ha, .inr (2, [.ref pa, .ref qa])), (ka, .inr (3, [.ref pa, .ref qa, .ref ha, .ref ta, .int an, .int mt, .int co])), (ta, .inl (cI, 32, .inl tf)), (wa, .inr (6, [.ref qa, .ref sa])), (va, .inr (1, [.ref qa, .ref sa])), (hb, .inr (2, [.ref pa, .ref da])), (hc, .inr (2, [.ref pa, .ref da])), (ea, .inr (5, [.ref sa, .ref da, .ref hb, .int ra, .int rr])), (ua, .inr (0, [.ref sa, .ref da, .ref hc, .int zra, .int zrr, .int zrp]))] zIA := by
  unfold zf_X_empty_IA at h
  refine CoT.ofG hl (cc := zc_X_empty) (maxL := 4) (own := RX9) (by decide) rfl rfl ⟨by decide, by decide, by decide, by decide⟩ (Nat.le_of_ble_eq_true rfl) (L0 := [(0, .ref xa), (1, .int i1)]) rfl (fun k F X ET EX => ?_)
  refine G_aload_n F zd_X_empty_0 rfl (j := 0) rfl ?_
  refine G_iload_n F zd_X_empty_1 rfl (j := 1) rfl ?_
  by_cases g0 : i1 = 0
  · have h := iP h g0
    obtain ⟨hc2, h⟩ := bc0_s h
    refine G_callrV0 F (zk_X_rowOf_qa l D cB cI cJ xa qa qb sa sb pa pb da db ka ha ta wa va hb hc ea ua qn qf sn sf pn pf dn df tf an mt co ra rr zra zrr zrp i1 hc2) (rest := []) [0, 1, 2, 3, 4, 5, 6, 7, 8, 9, 10, 11, 12, 13, 14, 15, 16, 17] rfl rfl (q0 := 0) rfl cv_X_64_X rfl rfl ⟨Nat.le_of_ble_eq_true rfl, Nat.le_of_ble_eq_true rfl⟩ hf0 rfl (Nat.le_of_ble_eq_true rfl) zd_X_empty_2 rfl ?_
    cases h
  have h := iN h g0
  by_cases g1 : i1 = (1 : Int32)
  · have h := iP h g1
    obtain ⟨hc2, h⟩ := bc0_s h
    refine G_callrV0 F (zk_X_rowOf_sa l D cB cI cJ xa qa qb sa sb pa pb da db ka ha ta wa va hb hc ea ua qn qf sn sf pn pf dn df tf an mt co ra rr zra zrr zrp i1 hc2) (rest := []) [0, 1, 2, 3, 4, 5, 6, 7, 8, 9, 10, 11, 12, 13, 14, 15, 16, 17] rfl rfl (q0 := 0) rfl cv_X_64_X rfl rfl ⟨Nat.le_of_ble_eq_true rfl, Nat.le_of_ble_eq_true rfl⟩ hf0 rfl (Nat.le_of_ble_eq_true rfl) zd_X_empty_2 rfl ?_
    cases h
  have h := iN h g1
  by_cases g2 : i1 = (2 : Int32)
  · have h := iP h g2
    obtain ⟨hc2, h⟩ := bc0_s h
    refine G_callrV0 F (zk_X_rowOf_pa l D cB cI cJ xa qa qb sa sb pa pb da db ka ha ta wa va hb hc ea ua qn qf sn sf pn pf dn df tf an mt co ra rr zra zrr zrp i1 hc2) (rest := []) [0, 1, 2, 3, 4, 5, 6, 7, 8, 9, 10, 11, 12, 13, 14, 15, 16, 17] rfl rfl (q0 := 0) rfl cv_X_64_X rfl rfl ⟨Nat.le_of_ble_eq_true rfl, Nat.le_of_ble_eq_true rfl⟩ hf0 rfl (Nat.le_of_ble_eq_true rfl) zd_X_empty_2 rfl ?_
    cases h
  have h := iN h g2
  obtain ⟨hc2, h⟩ := bc0_s h
  exact G_xV F X EX (zk_X_rowOf_IA l hl D cB cI cJ xa qa qb sa sb pa pb da db ka ha ta wa va hb hc ea ua qn qf sn sf pn pf dn df tf an mt co ra rr zra zrr zrp i1 hc2) (rest := []) [0, 1, 2, 3, 4, 5, 6, 7, 8, 9, 10, 11, 12, 13, 14, 15, 16, 17] rfl rfl (q0 := 0) rfl cv_X_64_X rfl rfl ⟨Nat.le_of_ble_eq_true rfl, Nat.le_of_ble_eq_true rfl⟩ ⟨Nat.le_of_ble_eq_true rfl, Nat.le_of_ble_eq_true rfl⟩ rfl (Nat.le_of_ble_eq_true rfl) zd_X_empty_2 rfl

def zf_X_pack_IA (i1 : Int32) : Option (Unit) := bc0 (zf_X_requireFormat_IA i1) fun _ => some ()
set_option maxHeartbeats 4000000 in
set_option maxRecDepth 100000 in
theorem zk_X_pack_IA (l : Launch) (hl : l.stackTraces = false) (D : va_G) (cB cI cJ : ClassId) (xa : Nat) (qa : Nat) (qb : Nat) (sa : Nat) (sb : Nat) (pa : Nat) (pb : Nat) (da : Nat) (db : Nat) (ka : Nat) (ha : Nat) (ta : Nat) (wa : Nat) (va : Nat) (hb : Nat) (hc : Nat) (ea : Nat) (ua : Nat) (qn : Int32) (qf : Nat → Int32) (sn : Int32) (sf : Nat → Int32) (pn : Int32) (pf : Nat → Int32) (dn : Int32) (df : Nat → Int32) (tf : Nat → Int32) (an : Int32) (mt : Int32) (co : Int32) (ra : Int32) (rr : Int32) (zra : Int32) (zrr : Int32) (zrp : Int32) (i1 : Int32) (h : zf_X_pack_IA i1 = some ()) : CoT l zy_X_pack zw_X_pack { frames := 7, cells := 1, slots := 6, locals := 110 } D cB cI cJ [.ref xa, .int i1] [(xa, .inr (7, [.ref qa, .ref sa, .ref pa, .ref da, .ref ka, .ref wa, .ref va, .ref ea, .ref ua])), (qa, .inr (4, [.ref qb, .int qn])), (qb, .inl (cB, 160, .inl qf)), (sa, .inr (4, [.ref sb, .int sn])), (sb, .inl (cB, 200, .inl sf)), (pa, .inr (4, [.ref pb, .int pn])), (pb, .inl (cB, 64, .inl pf)), (da, .inr (4, [.ref db, .int dn])), (db, .inl (cB, 160, .inl df)), (ha, .inr (2, [.ref pa, .ref qa])), (ka, .inr (3, [.ref pa, .ref qa, .ref ha, .ref ta, .int an, .int mt, .int co])), (ta, .inl (cI, 32, .inl tf)), (wa, .inr (6, [.ref qa, .ref sa])), (va, .inr (1, [.ref qa, .ref sa])), (hb, .inr (2, [.ref pa, .ref da])), (hc, .inr (2, [.ref pa, .ref da])), (ea, .inr (5, [.ref sa, .ref da, .ref hb, .int ra, .int rr])), (ua, .inr (0, [.ref sa, .ref da, .ref hc, .int zra, .int zrr, .int zrp]))] zIA := by
  unfold zf_X_pack_IA at h
  refine CoT.ofG hl (cc := zc_X_pack) (maxL := 2) (own := RX9) (by decide) rfl rfl ⟨by decide, by decide, by decide, by decide⟩ (Nat.le_of_ble_eq_true rfl) (L0 := [(0, .ref xa), (1, .int i1)]) rfl (fun k F X ET EX => ?_)
  refine G_iload_n F zd_X_pack_0 rfl (j := 1) rfl ?_
  obtain ⟨hc1, h⟩ := bc0_s h
  exact G_xS F X EX (zk_X_requireFormat_IA l hl D cB cI cJ i1 hc1) (rest := []) [] rfl rfl cv_X_94_X rfl rfl ⟨Nat.le_of_ble_eq_true rfl, Nat.le_of_ble_eq_true rfl⟩ ⟨Nat.le_of_ble_eq_true rfl, Nat.le_of_ble_eq_true rfl⟩ rfl (Nat.le_of_ble_eq_true rfl) zd_X_pack_1 rfl

def zf_X_unpack_IA (i1 : Int32) : Option (Unit) := bc0 (zf_X_requireFormat_IA i1) fun _ => some ()
set_option maxHeartbeats 4000000 in
set_option maxRecDepth 100000 in
theorem zk_X_unpack_IA (l : Launch) (hl : l.stackTraces = false) (D : va_G) (cB cI cJ : ClassId) (xa : Nat) (qa : Nat) (qb : Nat) (sa : Nat) (sb : Nat) (pa : Nat) (pb : Nat) (da : Nat) (db : Nat) (ka : Nat) (ha : Nat) (ta : Nat) (wa : Nat) (va : Nat) (hb : Nat) (hc : Nat) (ea : Nat) (ua : Nat) (qn : Int32) (qf : Nat → Int32) (sn : Int32) (sf : Nat → Int32) (pn : Int32) (pf : Nat → Int32) (dn : Int32) (df : Nat → Int32) (tf : Nat → Int32) (an : Int32) (mt : Int32) (co : Int32) (ra : Int32) (rr : Int32) (zra : Int32) (zrr : Int32) (zrp : Int32) (i1 : Int32) (h : zf_X_unpack_IA i1 = some ()) : CoT l zy_X_unpack zw_X_unpack { frames := 7, cells := 1, slots := 6, locals := 110 } D cB cI cJ [.ref xa, .int i1] [(xa, .inr (7, [.ref qa, .ref sa, .ref pa, .ref da, .ref ka, .ref wa, .ref va, .ref ea, .ref ua])), (qa, .inr (4, [.ref qb, .int qn])), (qb, .inl (cB, 160, .inl qf)), (sa, .inr (4, [.ref sb, .int sn])), (sb, .inl (cB, 200, .inl sf)), (pa, .inr (4, [.ref pb, .int pn])), (pb, .inl (cB, 64, .inl pf)), (da, .inr (4, [.ref db, .int dn])), (db, .inl (cB, 160, .inl df)), (ha, .inr (2, [.ref pa, .ref qa])), (ka, .inr (3, [.ref pa, .ref qa, .ref ha, .ref ta, .int an, .int mt, .int co])), (ta, .inl (cI, 32, .inl tf)), (wa, .inr (6, [.ref qa, .ref sa])), (va, .inr (1, [.ref qa, .ref sa])), (hb, .inr (2, [.ref pa, .ref da])), (hc, .inr (2, [.ref pa, .ref da])), (ea, .inr (5, [.ref sa, .ref da, .ref hb, .int ra, .int rr])), (ua, .inr (0, [.ref sa, .ref da, .ref hc, .int zra, .int zrr, .int zrp]))] zIA := by
  unfold zf_X_unpack_IA at h
  refine CoT.ofG hl (cc := zc_X_unpack) (maxL := 3) (own := RX9) (by decide) rfl rfl ⟨by decide, by decide, by decide, by decide⟩ (Nat.le_of_ble_eq_true rfl) (L0 := [(0, .ref xa), (1, .int i1)]) rfl (fun k F X ET EX => ?_)
  refine G_iload_n F zd_X_unpack_0 rfl (j := 1) rfl ?_
  obtain ⟨hc1, h⟩ := bc0_s h
  exact G_xS F X EX (zk_X_requireFormat_IA l hl D cB cI cJ i1 hc1) (rest := []) [] rfl rfl cv_X_94_X rfl rfl ⟨Nat.le_of_ble_eq_true rfl, Nat.le_of_ble_eq_true rfl⟩ ⟨Nat.le_of_ble_eq_true rfl, Nat.le_of_ble_eq_true rfl⟩ rfl (Nat.le_of_ble_eq_true rfl) zd_X_unpack_1 rfl

def zf_X_size_IA (i1 : Int32) : Option (Unit) := if i1 = 0 then bc0 (zf_X_rowOf_qa i1) fun _ => none else if i1 = (1 : Int32) then bc0 (zf_X_rowOf_sa i1) fun _ => none else if i1 = (2 : Int32) then bc0 (zf_X_rowOf_pa i1) fun _ => none else bc0 (zf_X_rowOf_IA i1) fun _ => some ()
set_option maxHeartbeats 4000000 in
set_option maxRecDepth 100000 in
theorem zk_X_size_IA (l : Launch) (hl : l.stackTraces = false) (D : va_G) (cB cI cJ : ClassId) (xa : Nat) (qa : Nat) (qb : Nat) (sa : Nat) (sb : Nat) (pa : Nat) (pb : Nat) (da : Nat) (db : Nat) (ka : Nat) (ha : Nat) (ta : Nat) (wa : Nat) (va : Nat) (hb : Nat) (hc : Nat) (ea : Nat) (ua : Nat) (qn : Int32) (qf : Nat → Int32) (sn : Int32) (sf : Nat → Int32) (pn : Int32) (pf : Nat → Int32) (dn : Int32) (df : Nat → Int32) (tf : Nat → Int32) (an : Int32) (mt : Int32) (co : Int32) (ra : Int32) (rr : Int32) (zra : Int32) (zrr : Int32) (zrp : Int32) (i1 : Int32) (h : zf_X_size_IA i1 = some ()) : CoT l zy_X_size zw_X_size { frames := 7, cells := 1, slots := 6, locals := 111 } D cB cI cJ [.ref xa, .int i1] [(xa, .inr (7, [.ref qa, .ref sa, .ref pa, .ref da, .ref ka, .ref wa, .ref va, .ref ea, .ref ua])), (qa, .inr (4, [.ref qb, .int qn])), (qb, .inl (cB, 160, .inl qf)), (sa, .inr (4, [.ref sb, .int sn])), (sb, .inl (cB, 200, .inl sf)), (pa, .inr (4, [.ref pb, .int pn])), (pb, .inl (cB, 64, .inl pf)), (da, .inr (4, [.ref db, .int dn])), (db, .inl (cB, 160, .inl df)), (ha, .inr (2, [.ref pa, .ref qa])), (ka, .inr (3, [.ref pa, .ref qa, .ref ha, .ref ta, .int an, .int mt, .int co])), (ta, .inl (cI, 32, .inl tf)), (wa, .inr (6, [.ref qa, .ref sa])), (va, .inr (1, [.ref qa, .ref sa])), (hb, .inr (2, [.ref pa, .ref da])), (hc, .inr (2, [.ref pa, .ref da])), (ea, .inr (5, [.ref sa, .ref da, .ref hb, .int ra, .int rr])), (ua, .inr (0, [.ref sa, .ref da, .ref hc, .int zra, .int zrr, .int zrp]))] zIA := by
  unfold zf_X_size_IA at h
  refine CoT.ofG hl (cc := zc_X_size) (maxL := 2) (own := RX9) (by decide) rfl rfl ⟨by decide, by decide, by decide, by decide⟩ (Nat.le_of_ble_eq_true rfl) (L0 := [(0, .ref xa), (1, .int i1)]) rfl (fun k F X ET EX => ?_)
  refine G_aload_n F zd_X_size_0 rfl (j := 0) rfl ?_
  refine G_iload_n F zd_X_size_1 rfl (j := 1) rfl ?_
  by_cases g0 : i1 = 0
  · have h := iP h g0
    obtain ⟨hc2, h⟩ := bc0_s h
    refine G_callrV0 F (zk_X_rowOf_qa l D cB cI cJ xa qa qb sa sb pa pb da db ka ha ta wa va hb hc ea ua qn qf sn sf pn pf dn df tf an mt co ra rr zra zrr zrp i1 hc2) (rest := []) [0, 1, 2, 3, 4, 5, 6, 7, 8, 9, 10, 11, 12, 13, 14, 15, 16, 17] rfl rfl (q0 := 0) rfl cv_X_64_X rfl rfl ⟨Nat.le_of_ble_eq_true rfl, Nat.le_of_ble_eq_true rfl⟩ hf0 rfl (Nat.le_of_ble_eq_true rfl) zd_X_size_2 rfl ?_
    cases h
  have h := iN h g0
  by_cases g1 : i1 = (1 : Int32)
  · have h := iP h g1
    obtain ⟨hc2, h⟩ := bc0_s h
    refine G_callrV0 F (zk_X_rowOf_sa l D cB cI cJ xa qa qb sa sb pa pb da db ka ha ta wa va hb hc ea ua qn qf sn sf pn pf dn df tf an mt co ra rr zra zrr zrp i1 hc2) (rest := []) [0, 1, 2, 3, 4, 5, 6, 7, 8, 9, 10, 11, 12, 13, 14, 15, 16, 17] rfl rfl (q0 := 0) rfl cv_X_64_X rfl rfl ⟨Nat.le_of_ble_eq_true rfl, Nat.le_of_ble_eq_true rfl⟩ hf0 rfl (Nat.le_of_ble_eq_true rfl) zd_X_size_2 rfl ?_
    cases h
  have h := iN h g1
  by_cases g2 : i1 = (2 : Int32)
  · have h := iP h g2
    obtain ⟨hc2, h⟩ := bc0_s h
    refine G_callrV0 F (zk_X_rowOf_pa l D cB cI cJ xa qa qb sa sb pa pb da db ka ha ta wa va hb hc ea ua qn qf sn sf pn pf dn df tf an mt co ra rr zra zrr zrp i1 hc2) (rest := []) [0, 1, 2, 3, 4, 5, 6, 7, 8, 9, 10, 11, 12, 13, 14, 15, 16, 17] rfl rfl (q0 := 0) rfl cv_X_64_X rfl rfl ⟨Nat.le_of_ble_eq_true rfl, Nat.le_of_ble_eq_true rfl⟩ hf0 rfl (Nat.le_of_ble_eq_true rfl) zd_X_size_2 rfl ?_
    cases h
  have h := iN h g2
  obtain ⟨hc2, h⟩ := bc0_s h
  exact G_xV F X EX (zk_X_rowOf_IA l hl D cB cI cJ xa qa qb sa sb pa pb da db ka ha ta wa va hb hc ea ua qn qf sn sf pn pf dn df tf an mt co ra rr zra zrr zrp i1 hc2) (rest := []) [0, 1, 2, 3, 4, 5, 6, 7, 8, 9, 10, 11, 12, 13, 14, 15, 16, 17] rfl rfl (q0 := 0) rfl cv_X_64_X rfl rfl ⟨Nat.le_of_ble_eq_true rfl, Nat.le_of_ble_eq_true rfl⟩ ⟨Nat.le_of_ble_eq_true rfl, Nat.le_of_ble_eq_true rfl⟩ rfl (Nat.le_of_ble_eq_true rfl) zd_X_size_2 rfl

def zf_X_get_IA (qn : Int32) (sn : Int32) (pn : Int32) (i1 : Int32) (i2 : Int32) : Option (Unit) := if i1 = 0 then bc0 (zf_X_rowOf_qa i1) fun _ => if i2 < 0 then none else if i2 < qn then none else none else if i1 = (1 : Int32) then bc0 (zf_X_rowOf_sa i1) fun _ => if i2 < 0 then none else if i2 < sn then none else none else if i1 = (2 : Int32) then bc0 (zf_X_rowOf_pa i1) fun _ => if i2 < 0 then none else if i2 < pn then none else none else bc0 (zf_X_rowOf_IA i1) fun _ => some ()
set_option maxHeartbeats 4000000 in
set_option maxRecDepth 100000 in
theorem zk_X_get_IA (l : Launch) (hl : l.stackTraces = false) (D : va_G) (cB cI cJ : ClassId) (xa : Nat) (qa : Nat) (qb : Nat) (sa : Nat) (sb : Nat) (pa : Nat) (pb : Nat) (da : Nat) (db : Nat) (ka : Nat) (ha : Nat) (ta : Nat) (wa : Nat) (va : Nat) (hb : Nat) (hc : Nat) (ea : Nat) (ua : Nat) (qn : Int32) (qf : Nat → Int32) (sn : Int32) (sf : Nat → Int32) (pn : Int32) (pf : Nat → Int32) (dn : Int32) (df : Nat → Int32) (tf : Nat → Int32) (an : Int32) (mt : Int32) (co : Int32) (ra : Int32) (rr : Int32) (zra : Int32) (zrr : Int32) (zrp : Int32) (i1 : Int32) (i2 : Int32) (h : zf_X_get_IA qn sn pn i1 i2 = some ()) : CoT l zy_X_get zw_X_get { frames := 7, cells := 1, slots := 6, locals := 111 } D cB cI cJ [.ref xa, .int i1, .int i2] [(xa, .inr (7, [.ref qa, .ref sa, .ref pa, .ref da, .ref ka, .ref wa, .ref va, .ref ea, .ref ua])), (qa, .inr (4, [.ref qb, .int qn])), (qb, .inl (cB, 160, .inl qf)), (sa, .inr (4, [.ref sb, .int sn])), (sb, .inl (cB, 200, .inl sf)), (pa, .inr (4, [.ref pb, .int pn])), (pb, .inl (cB, 64, .inl pf)), (da, .inr (4, [.ref db, .int dn])), (db, .inl (cB, 160, .inl df)), (ha, .inr (2, [.ref pa, .ref qa])), (ka, .inr (3, [.ref pa, .ref qa, .ref ha, .ref ta, .int an, .int mt, .int co])), (ta, .inl (cI, 32, .inl tf)), (wa, .inr (6, [.ref qa, .ref sa])), (va, .inr (1, [.ref qa, .ref sa])), (hb, .inr (2, [.ref pa, .ref da])), (hc, .inr (2, [.ref pa, .ref da])), (ea, .inr (5, [.ref sa, .ref da, .ref hb, .int ra, .int rr])), (ua, .inr (0, [.ref sa, .ref da, .ref hc, .int zra, .int zrr, .int zrp]))] zIA := by
  unfold zf_X_get_IA at h
  refine CoT.ofG hl (cc := zc_X_get) (maxL := 4) (own := RX9) (by decide) rfl rfl ⟨by decide, by decide, by decide, by decide⟩ (Nat.le_of_ble_eq_true rfl) (L0 := [(0, .ref xa), (1, .int i1), (2, .int i2)]) rfl (fun k F X ET EX => ?_)
  refine G_aload_n F zd_X_get_0 rfl (j := 0) rfl ?_
  refine G_iload_n F zd_X_get_1 rfl (j := 1) rfl ?_
  by_cases g0 : i1 = 0
  · have h := iP h g0
    obtain ⟨hc2, h⟩ := bc0_s h
    refine G_callrV0 F (zk_X_rowOf_qa l D cB cI cJ xa qa qb sa sb pa pb da db ka ha ta wa va hb hc ea ua qn qf sn sf pn pf dn df tf an mt co ra rr zra zrr zrp i1 hc2) (rest := []) [0, 1, 2, 3, 4, 5, 6, 7, 8, 9, 10, 11, 12, 13, 14, 15, 16, 17] rfl rfl (q0 := 0) rfl cv_X_64_X rfl rfl ⟨Nat.le_of_ble_eq_true rfl, Nat.le_of_ble_eq_true rfl⟩ hf0 rfl (Nat.le_of_ble_eq_true rfl) zd_X_get_2 rfl ?_
    refine G_astore_n F zd_X_get_5 rfl (by decide) (L' := [(3, .ref qa), (0, .ref xa), (1, .int i1), (2, .int i2)]) rfl ?_
    refine G_iload_n F zd_X_get_6 rfl (j := 3) rfl ?_
    refine G_if_lt F zd_X_get_7 (tgt := 18) rfl (fun h0 => ?_) (fun h0 => ?_)
    · have h := iP h h0
      cases h
    · have h := iN h h0
      refine G_iload_n F zd_X_get_10 rfl (j := 3) rfl ?_
      refine G_aload_n F zd_X_get_11 rfl (j := 0) rfl ?_
      refine G_get F fa_X_87_R (q := 1) zd_X_get_12 rfl rfl ?_
      refine G_icmp_lt F zd_X_get_15 (tgt := 28) rfl (fun h0 => ?_) (fun h0 => ?_)
      · have h := iP h h0
        cases h
      · have h := iN h h0
        cases h
  have h := iN h g0
  by_cases g1 : i1 = (1 : Int32)
  · have h := iP h g1
    obtain ⟨hc2, h⟩ := bc0_s h
    refine G_callrV0 F (zk_X_rowOf_sa l D cB cI cJ xa qa qb sa sb pa pb da db ka ha ta wa va hb hc ea ua qn qf sn sf pn pf dn df tf an mt co ra rr zra zrr zrp i1 hc2) (rest := []) [0, 1, 2, 3, 4, 5, 6, 7, 8, 9, 10, 11, 12, 13, 14, 15, 16, 17] rfl rfl (q0 := 0) rfl cv_X_64_X rfl rfl ⟨Nat.le_of_ble_eq_true rfl, Nat.le_of_ble_eq_true rfl⟩ hf0 rfl (Nat.le_of_ble_eq_true rfl) zd_X_get_2 rfl ?_
    refine G_astore_n F zd_X_get_5 rfl (by decide) (L' := [(3, .ref sa), (0, .ref xa), (1, .int i1), (2, .int i2)]) rfl ?_
    refine G_iload_n F zd_X_get_6 rfl (j := 3) rfl ?_
    refine G_if_lt F zd_X_get_7 (tgt := 18) rfl (fun h0 => ?_) (fun h0 => ?_)
    · have h := iP h h0
      cases h
    · have h := iN h h0
      refine G_iload_n F zd_X_get_10 rfl (j := 3) rfl ?_
      refine G_aload_n F zd_X_get_11 rfl (j := 0) rfl ?_
      refine G_get F fa_X_87_R (q := 3) zd_X_get_12 rfl rfl ?_
      refine G_icmp_lt F zd_X_get_15 (tgt := 28) rfl (fun h0 => ?_) (fun h0 => ?_)
      · have h := iP h h0
        cases h
      · have h := iN h h0
        cases h
  have h := iN h g1
  by_cases g2 : i1 = (2 : Int32)
  · have h := iP h g2
    obtain ⟨hc2, h⟩ := bc0_s h
    refine G_callrV0 F (zk_X_rowOf_pa l D cB cI cJ xa qa qb sa sb pa pb da db ka ha ta wa va hb hc ea ua qn qf sn sf pn pf dn df tf an mt co ra rr zra zrr zrp i1 hc2) (rest := []) [0, 1, 2, 3, 4, 5, 6, 7, 8, 9, 10, 11, 12, 13, 14, 15, 16, 17] rfl rfl (q0 := 0) rfl cv_X_64_X rfl rfl ⟨Nat.le_of_ble_eq_true rfl, Nat.le_of_ble_eq_true rfl⟩ hf0 rfl (Nat.le_of_ble_eq_true rfl) zd_X_get_2 rfl ?_
    refine G_astore_n F zd_X_get_5 rfl (by decide) (L' := [(3, .ref pa), (0, .ref xa), (1, .int i1), (2, .int i2)]) rfl ?_
    refine G_iload_n F zd_X_get_6 rfl (j := 3) rfl ?_
    refine G_if_lt F zd_X_get_7 (tgt := 18) rfl (fun h0 => ?_) (fun h0 => ?_)
    · have h := iP h h0
      cases h
    · have h := iN h h0
      refine G_iload_n F zd_X_get_10 rfl (j := 3) rfl ?_
      refine G_aload_n F zd_X_get_11 rfl (j := 0) rfl ?_
      refine G_get F fa_X_87_R (q := 5) zd_X_get_12 rfl rfl ?_
      refine G_icmp_lt F zd_X_get_15 (tgt := 28) rfl (fun h0 => ?_) (fun h0 => ?_)
      · have h := iP h h0
        cases h
      · have h := iN h h0
        cases h
  have h := iN h g2
  obtain ⟨hc2, h⟩ := bc0_s h
  exact G_xV F X EX (zk_X_rowOf_IA l hl D cB cI cJ xa qa qb sa sb pa pb da db ka ha ta wa va hb hc ea ua qn qf sn sf pn pf dn df tf an mt co ra rr zra zrr zrp i1 hc2) (rest := []) [0, 1, 2, 3, 4, 5, 6, 7, 8, 9, 10, 11, 12, 13, 14, 15, 16, 17] rfl rfl (q0 := 0) rfl cv_X_64_X rfl rfl ⟨Nat.le_of_ble_eq_true rfl, Nat.le_of_ble_eq_true rfl⟩ ⟨Nat.le_of_ble_eq_true rfl, Nat.le_of_ble_eq_true rfl⟩ rfl (Nat.le_of_ble_eq_true rfl) zd_X_get_2 rfl

def zf_X_get_IS (qn : Int32) (sn : Int32) (pn : Int32) (i1 : Int32) (i2 : Int32) : Option (Unit) := if i1 = 0 then bc0 (zf_X_rowOf_qa i1) fun _ => if i2 < 0 then some () else if i2 < qn then none else some () else if i1 = (1 : Int32) then bc0 (zf_X_rowOf_sa i1) fun _ => if i2 < 0 then some () else if i2 < sn then none else some () else if i1 = (2 : Int32) then bc0 (zf_X_rowOf_pa i1) fun _ => if i2 < 0 then some () else if i2 < pn then none else some () else none
set_option maxHeartbeats 4000000 in
set_option maxRecDepth 100000 in
theorem zk_X_get_IS (l : Launch) (hl : l.stackTraces = false) (D : va_G) (cB cI cJ : ClassId) (xa : Nat) (qa : Nat) (qb : Nat) (sa : Nat) (sb : Nat) (pa : Nat) (pb : Nat) (da : Nat) (db : Nat) (ka : Nat) (ha : Nat) (ta : Nat) (wa : Nat) (va : Nat) (hb : Nat) (hc : Nat) (ea : Nat) (ua : Nat) (qn : Int32) (qf : Nat → Int32) (sn : Int32) (sf : Nat → Int32) (pn : Int32) (pf : Nat → Int32) (dn : Int32) (df : Nat → Int32) (tf : Nat → Int32) (an : Int32) (mt : Int32) (co : Int32) (ra : Int32) (rr : Int32) (zra : Int32) (zrr : Int32) (zrp : Int32) (i1 : Int32) (i2 : Int32) (h : zf_X_get_IS qn sn pn i1 i2 = some ()) : CoT l zy_X_get zw_X_get { frames := 6, cells := 1, slots := 6, locals := 90 } D cB cI cJ [.ref xa, .int i1, .int i2] [(xa, .inr (7, [.ref qa, .ref sa, .ref pa, .ref da, .ref ka, .ref wa, .ref va, .ref ea, .ref ua])), (qa, .inr (4, [.ref qb, .int qn])), (qb, .inl (cB, 160, .inl qf)), (sa, .inr (4, [.ref sb, .int sn])), (sb, .inl (cB, 200, .inl sf)), (pa, .inr (4, [.ref pb, .int pn])), (pb, .inl (cB, 64, .inl pf)), (da, .inr (4, [.ref db, .int dn])), (db, .inl (cB, 160, .inl df)), (ha, .inr (2, [.ref pa, .ref qa])), (ka, .inr (3, [.ref pa, .ref qa, .ref ha, .ref ta, .int an, .int mt, .int co])), (ta, .inl (cI, 32, .inl tf)), (wa, .inr (6, [.ref qa, .ref sa])), (va, .inr (1, [.ref qa, .ref sa])), (hb, .inr (2, [.ref pa, .ref da])), (hc, .inr (2, [.ref pa, .ref da])), (ea, .inr (5, [.ref sa, .ref da, .ref hb, .int ra, .int rr])), (ua, .inr (0, [.ref sa, .ref da, .ref hc, .int zra, .int zrr, .int zrp]))] zIS := by
  unfold zf_X_get_IS at h
  refine CoT.ofG hl (cc := zc_X_get) (maxL := 4) (own := RX9) (by decide) rfl rfl ⟨by decide, by decide, by decide, by decide⟩ (Nat.le_of_ble_eq_true rfl) (L0 := [(0, .ref xa), (1, .int i1), (2, .int i2)]) rfl (fun k F X ET EX => ?_)
  refine G_aload_n F zd_X_get_0 rfl (j := 0) rfl ?_
  refine G_iload_n F zd_X_get_1 rfl (j := 1) rfl ?_
  by_cases g0 : i1 = 0
  · have h := iP h g0
    obtain ⟨hc2, h⟩ := bc0_s h
    refine G_callrV0 F (zk_X_rowOf_qa l D cB cI cJ xa qa qb sa sb pa pb da db ka ha ta wa va hb hc ea ua qn qf sn sf pn pf dn df tf an mt co ra rr zra zrr zrp i1 hc2) (rest := []) [0, 1, 2, 3, 4, 5, 6, 7, 8, 9, 10, 11, 12, 13, 14, 15, 16, 17] rfl rfl (q0 := 0) rfl cv_X_64_X rfl rfl ⟨Nat.le_of_ble_eq_true rfl, Nat.le_of_ble_eq_true rfl⟩ hf0 rfl (Nat.le_of_ble_eq_true rfl) zd_X_get_2 rfl ?_
    refine G_astore_n F zd_X_get_5 rfl (by decide) (L' := [(3, .ref qa), (0, .ref xa), (1, .int i1), (2, .int i2)]) rfl ?_
    refine G_iload_n F zd_X_get_6 rfl (j := 3) rfl ?_
    refine G_if_lt F zd_X_get_7 (tgt := 18) rfl (fun h0 => ?_) (fun h0 => ?_)
    · have h := iP h h0
      exact ET 18 _ _ 79 120 83 "no such byte" xp_IS (fun U hU => hU.2.2.2.2.2.2.2.1) (Nat.le_of_ble_eq_true rfl) zd_X_get_18 zd_X_get_21 zd_X_get_22 zd_X_get_24 zd_X_get_27
    · have h := iN h h0
      refine G_iload_n F zd_X_get_10 rfl (j := 3) rfl ?_
      refine G_aload_n F zd_X_get_11 rfl (j := 0) rfl ?_
      refine G_get F fa_X_87_R (q := 1) zd_X_get_12 rfl rfl ?_
      refine G_icmp_lt F zd_X_get_15 (tgt := 28) rfl (fun h0 => ?_) (fun h0 => ?_)
      · have h := iP h h0
        cases h
      · have h := iN h h0
        exact ET 18 _ _ 79 120 83 "no such byte" xp_IS (fun U hU => hU.2.2.2.2.2.2.2.1) (Nat.le_of_ble_eq_true rfl) zd_X_get_18 zd_X_get_21 zd_X_get_22 zd_X_get_24 zd_X_get_27
  have h := iN h g0
  by_cases g1 : i1 = (1 : Int32)
  · have h := iP h g1
    obtain ⟨hc2, h⟩ := bc0_s h
    refine G_callrV0 F (zk_X_rowOf_sa l D cB cI cJ xa qa qb sa sb pa pb da db ka ha ta wa va hb hc ea ua qn qf sn sf pn pf dn df tf an mt co ra rr zra zrr zrp i1 hc2) (rest := []) [0, 1, 2, 3, 4, 5, 6, 7, 8, 9, 10, 11, 12, 13, 14, 15, 16, 17] rfl rfl (q0 := 0) rfl cv_X_64_X rfl rfl ⟨Nat.le_of_ble_eq_true rfl, Nat.le_of_ble_eq_true rfl⟩ hf0 rfl (Nat.le_of_ble_eq_true rfl) zd_X_get_2 rfl ?_
    refine G_astore_n F zd_X_get_5 rfl (by decide) (L' := [(3, .ref sa), (0, .ref xa), (1, .int i1), (2, .int i2)]) rfl ?_
    refine G_iload_n F zd_X_get_6 rfl (j := 3) rfl ?_
    refine G_if_lt F zd_X_get_7 (tgt := 18) rfl (fun h0 => ?_) (fun h0 => ?_)
    · have h := iP h h0
      exact ET 18 _ _ 79 120 83 "no such byte" xp_IS (fun U hU => hU.2.2.2.2.2.2.2.1) (Nat.le_of_ble_eq_true rfl) zd_X_get_18 zd_X_get_21 zd_X_get_22 zd_X_get_24 zd_X_get_27
    · have h := iN h h0
      refine G_iload_n F zd_X_get_10 rfl (j := 3) rfl ?_
      refine G_aload_n F zd_X_get_11 rfl (j := 0) rfl ?_
      refine G_get F fa_X_87_R (q := 3) zd_X_get_12 rfl rfl ?_
      refine G_icmp_lt F zd_X_get_15 (tgt := 28) rfl (fun h0 => ?_) (fun h0 => ?_)
      · have h := iP h h0
        cases h
      · have h := iN h h0
        exact ET 18 _ _ 79 120 83 "no such byte" xp_IS (fun U hU => hU.2.2.2.2.2.2.2.1) (Nat.le_of_ble_eq_true rfl) zd_X_get_18 zd_X_get_21 zd_X_get_22 zd_X_get_24 zd_X_get_27
  have h := iN h g1
  by_cases g2 : i1 = (2 : Int32)
  · have h := iP h g2
    obtain ⟨hc2, h⟩ := bc0_s h
    refine G_callrV0 F (zk_X_rowOf_pa l D cB cI cJ xa qa qb sa sb pa pb da db ka ha ta wa va hb hc ea ua qn qf sn sf pn pf dn df tf an mt co ra rr zra zrr zrp i1 hc2) (rest := []) [0, 1, 2, 3, 4, 5, 6, 7, 8, 9, 10, 11, 12, 13, 14, 15, 16, 17] rfl rfl (q0 := 0) rfl cv_X_64_X rfl rfl ⟨Nat.le_of_ble_eq_true rfl, Nat.le_of_ble_eq_true rfl⟩ hf0 rfl (Nat.le_of_ble_eq_true rfl) zd_X_get_2 rfl ?_
    refine G_astore_n F zd_X_get_5 rfl (by decide) (L' := [(3, .ref pa), (0, .ref xa), (1, .int i1), (2, .int i2)]) rfl ?_
    refine G_iload_n F zd_X_get_6 rfl (j := 3) rfl ?_
    refine G_if_lt F zd_X_get_7 (tgt := 18) rfl (fun h0 => ?_) (fun h0 => ?_)
    · have h := iP h h0
      exact ET 18 _ _ 79 120 83 "no such byte" xp_IS (fun U hU => hU.2.2.2.2.2.2.2.1) (Nat.le_of_ble_eq_true rfl) zd_X_get_18 zd_X_get_21 zd_X_get_22 zd_X_get_24 zd_X_get_27
    · have h := iN h h0
      refine G_iload_n F zd_X_get_10 rfl (j := 3) rfl ?_
      refine G_aload_n F zd_X_get_11 rfl (j := 0) rfl ?_
      refine G_get F fa_X_87_R (q := 5) zd_X_get_12 rfl rfl ?_
      refine G_icmp_lt F zd_X_get_15 (tgt := 28) rfl (fun h0 => ?_) (fun h0 => ?_)
      · have h := iP h h0
        cases h
      · have h := iN h h0
        exact ET 18 _ _ 79 120 83 "no such byte" xp_IS (fun U hU => hU.2.2.2.2.2.2.2.1) (Nat.le_of_ble_eq_true rfl) zd_X_get_18 zd_X_get_21 zd_X_get_22 zd_X_get_24 zd_X_get_27
  have h := iN h g2
  cases h

def zf_X_found_IA (i1 : Int32) : Option (Unit) := if i1 < 0 then some () else if i1 ≤ (1 : Int32) then none else some ()
set_option maxHeartbeats 4000000 in
set_option maxRecDepth 100000 in
theorem zk_X_found_IA (l : Launch) (hl : l.stackTraces = false) (D : va_G) (cB cI cJ : ClassId) (xa : Nat) (qa : Nat) (qb : Nat) (sa : Nat) (sb : Nat) (pa : Nat) (pb : Nat) (da : Nat) (db : Nat) (ka : Nat) (ha : Nat) (ta : Nat) (wa : Nat) (va : Nat) (hb : Nat) (hc : Nat) (ea : Nat) (ua : Nat) (qn : Int32) (qf : Nat → Int32) (sn : Int32) (sf : Nat → Int32) (pn : Int32) (pf : Nat → Int32) (dn : Int32) (df : Nat → Int32) (tf : Nat → Int32) (an : Int32) (mt : Int32) (co : Int32) (ra : Int32) (rr : Int32) (zra : Int32) (zrr : Int32) (zrp : Int32) (i1 : Int32) (h : zf_X_found_IA i1 = some ()) : CoT l zy_X_found zw_X_found { frames := 6, cells := 1, slots := 6, locals := 90 } D cB cI cJ [.ref xa, .int i1] [(xa, .inr (7, [.ref qa, .ref sa, .ref pa, .ref da, .ref ka, .ref wa, .ref va, .ref ea, .ref ua])), (qa, .inr (4, [.ref qb, .int qn])), (qb, .inl (cB, 160, .inl qf)), (sa, .inr (4, [.ref sb, .int sn])), (sb, .inl (cB, 200, .inl sf)), (pa, .inr (4, [.ref pb, .int pn])), (pb, .inl (cB, 64, .inl pf)), (da, .inr (4, [.ref db, .int dn])), (db, .inl (cB, 160, .inl df)), (ha, .inr (2, [.ref pa, .ref qa])), (ka, .inr (3, [.ref pa, .ref qa, .ref ha, .ref ta, .int an, .int mt, .int co])), (ta, .inl (cI, 32, .inl tf)), (wa, .inr (6, [.ref qa, .ref sa])), (va, .inr (1, [.ref qa, .ref sa])), (hb, .inr (2, [.ref pa, .ref da])), (hc, .inr (2, [.ref pa, .ref da])), (ea, .inr (5, [.ref sa, .ref da, .ref hb, .int ra, .int rr])), (ua, .inr (0, [.ref sa, .ref da, .ref hc, .int zra, .int zrr, .int zrp]))] zIA := by
  unfold zf_X_found_IA at h
  refine CoT.ofG hl (cc := zc_X_found) (maxL := 2) (own := RX9) (by decide) rfl rfl ⟨by decide, by decide, by decide, by decide⟩ (Nat.le_of_ble_eq_true rfl) (L0 := [(0, .ref xa), (1, .int i1)]) rfl (fun k F X ET EX => ?_)
  refine G_iload_n F zd_X_found_0 rfl (j := 1) rfl ?_
  refine G_if_lt F zd_X_found_1 (tgt := 9) rfl (fun h0 => ?_) (fun h0 => ?_)
  · have h := iP h h0
    exact ET 9 _ _ 68 126 72 "what is not 0 or 1" xp_IA (fun U hU => hU.2.2.2.2.2.2.2.2) (Nat.le_of_ble_eq_true rfl) zd_X_found_9 zd_X_found_12 zd_X_found_13 zd_X_found_15 zd_X_found_18
  · have h := iN h h0
    refine G_iload_n F zd_X_found_4 rfl (j := 1) rfl ?_
    refine G_iconst (v := (1 : Int32)) F zd_X_found_5 (by decide) ?_
    refine G_icmp_le F zd_X_found_6 (tgt := 19) rfl (fun h0 => ?_) (fun h0 => ?_)
    · have h := iP h h0
      cases h
    · have h := iN h h0
      exact ET 9 _ _ 68 126 72 "what is not 0 or 1" xp_IA (fun U hU => hU.2.2.2.2.2.2.2.2) (Nat.le_of_ble_eq_true rfl) zd_X_found_9 zd_X_found_12 zd_X_found_13 zd_X_found_15 zd_X_found_18

def zf_X_crc_IA (i1 : Int32) : Option (Unit) := if i1 = 0 then bc0 (zf_X_rowOf_qa i1) fun _ => none else if i1 = (1 : Int32) then bc0 (zf_X_rowOf_sa i1) fun _ => none else if i1 = (2 : Int32) then bc0 (zf_X_rowOf_pa i1) fun _ => none else bc0 (zf_X_rowOf_IA i1) fun _ => some ()
set_option maxHeartbeats 4000000 in
set_option maxRecDepth 100000 in
theorem zk_X_crc_IA (l : Launch) (hl : l.stackTraces = false) (D : va_G) (cB cI cJ : ClassId) (xa : Nat) (qa : Nat) (qb : Nat) (sa : Nat) (sb : Nat) (pa : Nat) (pb : Nat) (da : Nat) (db : Nat) (ka : Nat) (ha : Nat) (ta : Nat) (wa : Nat) (va : Nat) (hb : Nat) (hc : Nat) (ea : Nat) (ua : Nat) (qn : Int32) (qf : Nat → Int32) (sn : Int32) (sf : Nat → Int32) (pn : Int32) (pf : Nat → Int32) (dn : Int32) (df : Nat → Int32) (tf : Nat → Int32) (an : Int32) (mt : Int32) (co : Int32) (ra : Int32) (rr : Int32) (zra : Int32) (zrr : Int32) (zrp : Int32) (i1 : Int32) (h : zf_X_crc_IA i1 = some ()) : CoT l zy_X_crc zw_X_crc { frames := 7, cells := 1, slots := 6, locals := 111 } D cB cI cJ [.ref xa, .int i1] [(xa, .inr (7, [.ref qa, .ref sa, .ref pa, .ref da, .ref ka, .ref wa, .ref va, .ref ea, .ref ua])), (qa, .inr (4, [.ref qb, .int qn])), (qb, .inl (cB, 160, .inl qf)), (sa, .inr (4, [.ref sb, .int sn])), (sb, .inl (cB, 200, .inl sf)), (pa, .inr (4, [.ref pb, .int pn])), (pb, .inl (cB, 64, .inl pf)), (da, .inr (4, [.ref db, .int dn])), (db, .inl (cB, 160, .inl df)), (ha, .inr (2, [.ref pa, .ref qa])), (ka, .inr (3, [.ref pa, .ref qa, .ref ha, .ref ta, .int an, .int mt, .int co])), (ta, .inl (cI, 32, .inl tf)), (wa, .inr (6, [.ref qa, .ref sa])), (va, .inr (1, [.ref qa, .ref sa])), (hb, .inr (2, [.ref pa, .ref da])), (hc, .inr (2, [.ref pa, .ref da])), (ea, .inr (5, [.ref sa, .ref da, .ref hb, .int ra, .int rr])), (ua, .inr (0, [.ref sa, .ref da, .ref hc, .int zra, .int zrr, .int zrp]))] zIA := by
  unfold zf_X_crc_IA at h
  refine CoT.ofG hl (cc := zc_X_crc) (maxL := 5) (own := RX9) (by decide) rfl rfl ⟨by decide, by decide, by decide, by decide⟩ (Nat.le_of_ble_eq_true rfl) (L0 := [(0, .ref xa), (1, .int i1)]) rfl (fun k F X ET EX => ?_)
  refine G_aload_n F zd_X_crc_0 rfl (j := 0) rfl ?_
  refine G_iload_n F zd_X_crc_1 rfl (j := 1) rfl ?_
  by_cases g0 : i1 = 0
  · have h := iP h g0
    obtain ⟨hc2, h⟩ := bc0_s h
    refine G_callrV0 F (zk_X_rowOf_qa l D cB cI cJ xa qa qb sa sb pa pb da db ka ha ta wa va hb hc ea ua qn qf sn sf pn pf dn df tf an mt co ra rr zra zrr zrp i1 hc2) (rest := []) [0, 1, 2, 3, 4, 5, 6, 7, 8, 9, 10, 11, 12, 13, 14, 15, 16, 17] rfl rfl (q0 := 0) rfl cv_X_64_X rfl rfl ⟨Nat.le_of_ble_eq_true rfl, Nat.le_of_ble_eq_true rfl⟩ hf0 rfl (Nat.le_of_ble_eq_true rfl) zd_X_crc_2 rfl ?_
    cases h
  have h := iN h g0
  by_cases g1 : i1 = (1 : Int32)
  · have h := iP h g1
    obtain ⟨hc2, h⟩ := bc0_s h
    refine G_callrV0 F (zk_X_rowOf_sa l D cB cI cJ xa qa qb sa sb pa pb da db ka ha ta wa va hb hc ea ua qn qf sn sf pn pf dn df tf an mt co ra rr zra zrr zrp i1 hc2) (rest := []) [0, 1, 2, 3, 4, 5, 6, 7, 8, 9, 10, 11, 12, 13, 14, 15, 16, 17] rfl rfl (q0 := 0) rfl cv_X_64_X rfl rfl ⟨Nat.le_of_ble_eq_true rfl, Nat.le_of_ble_eq_true rfl⟩ hf0 rfl (Nat.le_of_ble_eq_true rfl) zd_X_crc_2 rfl ?_
    cases h
  have h := iN h g1
  by_cases g2 : i1 = (2 : Int32)
  · have h := iP h g2
    obtain ⟨hc2, h⟩ := bc0_s h
    refine G_callrV0 F (zk_X_rowOf_pa l D cB cI cJ xa qa qb sa sb pa pb da db ka ha ta wa va hb hc ea ua qn qf sn sf pn pf dn df tf an mt co ra rr zra zrr zrp i1 hc2) (rest := []) [0, 1, 2, 3, 4, 5, 6, 7, 8, 9, 10, 11, 12, 13, 14, 15, 16, 17] rfl rfl (q0 := 0) rfl cv_X_64_X rfl rfl ⟨Nat.le_of_ble_eq_true rfl, Nat.le_of_ble_eq_true rfl⟩ hf0 rfl (Nat.le_of_ble_eq_true rfl) zd_X_crc_2 rfl ?_
    cases h
  have h := iN h g2
  obtain ⟨hc2, h⟩ := bc0_s h
  exact G_xV F X EX (zk_X_rowOf_IA l hl D cB cI cJ xa qa qb sa sb pa pb da db ka ha ta wa va hb hc ea ua qn qf sn sf pn pf dn df tf an mt co ra rr zra zrr zrp i1 hc2) (rest := []) [0, 1, 2, 3, 4, 5, 6, 7, 8, 9, 10, 11, 12, 13, 14, 15, 16, 17] rfl rfl (q0 := 0) rfl cv_X_64_X rfl rfl ⟨Nat.le_of_ble_eq_true rfl, Nat.le_of_ble_eq_true rfl⟩ ⟨Nat.le_of_ble_eq_true rfl, Nat.le_of_ble_eq_true rfl⟩ rfl (Nat.le_of_ble_eq_true rfl) zd_X_crc_2 rfl

def zf_X_hash_IA (i1 : Int32) : Option (Unit) := if i1 = 0 then bc0 (zf_X_rowOf_qa i1) fun _ => none else if i1 = (1 : Int32) then bc0 (zf_X_rowOf_sa i1) fun _ => none else if i1 = (2 : Int32) then bc0 (zf_X_rowOf_pa i1) fun _ => none else bc0 (zf_X_rowOf_IA i1) fun _ => some ()
set_option maxHeartbeats 4000000 in
set_option maxRecDepth 100000 in
theorem zk_X_hash_IA (l : Launch) (hl : l.stackTraces = false) (D : va_G) (cB cI cJ : ClassId) (xa : Nat) (qa : Nat) (qb : Nat) (sa : Nat) (sb : Nat) (pa : Nat) (pb : Nat) (da : Nat) (db : Nat) (ka : Nat) (ha : Nat) (ta : Nat) (wa : Nat) (va : Nat) (hb : Nat) (hc : Nat) (ea : Nat) (ua : Nat) (qn : Int32) (qf : Nat → Int32) (sn : Int32) (sf : Nat → Int32) (pn : Int32) (pf : Nat → Int32) (dn : Int32) (df : Nat → Int32) (tf : Nat → Int32) (an : Int32) (mt : Int32) (co : Int32) (ra : Int32) (rr : Int32) (zra : Int32) (zrr : Int32) (zrp : Int32) (i1 : Int32) (i2 : Int32) (h : zf_X_hash_IA i1 = some ()) : CoT l zy_X_hash zw_X_hash { frames := 7, cells := 1, slots := 6, locals := 111 } D cB cI cJ [.ref xa, .int i1, .int i2] [(xa, .inr (7, [.ref qa, .ref sa, .ref pa, .ref da, .ref ka, .ref wa, .ref va, .ref ea, .ref ua])), (qa, .inr (4, [.ref qb, .int qn])), (qb, .inl (cB, 160, .inl qf)), (sa, .inr (4, [.ref sb, .int sn])), (sb, .inl (cB, 200, .inl sf)), (pa, .inr (4, [.ref pb, .int pn])), (pb, .inl (cB, 64, .inl pf)), (da, .inr (4, [.ref db, .int dn])), (db, .inl (cB, 160, .inl df)), (ha, .inr (2, [.ref pa, .ref qa])), (ka, .inr (3, [.ref pa, .ref qa, .ref ha, .ref ta, .int an, .int mt, .int co])), (ta, .inl (cI, 32, .inl tf)), (wa, .inr (6, [.ref qa, .ref sa])), (va, .inr (1, [.ref qa, .ref sa])), (hb, .inr (2, [.ref pa, .ref da])), (hc, .inr (2, [.ref pa, .ref da])), (ea, .inr (5, [.ref sa, .ref da, .ref hb, .int ra, .int rr])), (ua, .inr (0, [.ref sa, .ref da, .ref hc, .int zra, .int zrr, .int zrp]))] zIA := by
  unfold zf_X_hash_IA at h
  refine CoT.ofG hl (cc := zc_X_hash) (maxL := 5) (own := RX9) (by decide) rfl rfl ⟨by decide, by decide, by decide, by decide⟩ (Nat.le_of_ble_eq_true rfl) (L0 := [(0, .ref xa), (1, .int i1), (2, .int i2)]) rfl (fun k F X ET EX => ?_)
  refine G_aload_n F zd_X_hash_0 rfl (j := 0) rfl ?_
  refine G_iload_n F zd_X_hash_1 rfl (j := 1) rfl ?_
  by_cases g0 : i1 = 0
  · have h := iP h g0
    obtain ⟨hc2, h⟩ := bc0_s h
    refine G_callrV0 F (zk_X_rowOf_qa l D cB cI cJ xa qa qb sa sb pa pb da db ka ha ta wa va hb hc ea ua qn qf sn sf pn pf dn df tf an mt co ra rr zra zrr zrp i1 hc2) (rest := []) [0, 1, 2, 3, 4, 5, 6, 7, 8, 9, 10, 11, 12, 13, 14, 15, 16, 17] rfl rfl (q0 := 0) rfl cv_X_64_X rfl rfl ⟨Nat.le_of_ble_eq_true rfl, Nat.le_of_ble_eq_true rfl⟩ hf0 rfl (Nat.le_of_ble_eq_true rfl) zd_X_hash_2 rfl ?_
    cases h
  have h := iN h g0
  by_cases g1 : i1 = (1 : Int32)
  · have h := iP h g1
    obtain ⟨hc2, h⟩ := bc0_s h
    refine G_callrV0 F (zk_X_rowOf_sa l D cB cI cJ xa qa qb sa sb pa pb da db ka ha ta wa va hb hc ea ua qn qf sn sf pn pf dn df tf an mt co ra rr zra zrr zrp i1 hc2) (rest := []) [0, 1, 2, 3, 4, 5, 6, 7, 8, 9, 10, 11, 12, 13, 14, 15, 16, 17] rfl rfl (q0 := 0) rfl cv_X_64_X rfl rfl ⟨Nat.le_of_ble_eq_true rfl, Nat.le_of_ble_eq_true rfl⟩ hf0 rfl (Nat.le_of_ble_eq_true rfl) zd_X_hash_2 rfl ?_
    cases h
  have h := iN h g1
  by_cases g2 : i1 = (2 : Int32)
  · have h := iP h g2
    obtain ⟨hc2, h⟩ := bc0_s h
    refine G_callrV0 F (zk_X_rowOf_pa l D cB cI cJ xa qa qb sa sb pa pb da db ka ha ta wa va hb hc ea ua qn qf sn sf pn pf dn df tf an mt co ra rr zra zrr zrp i1 hc2) (rest := []) [0, 1, 2, 3, 4, 5, 6, 7, 8, 9, 10, 11, 12, 13, 14, 15, 16, 17] rfl rfl (q0 := 0) rfl cv_X_64_X rfl rfl ⟨Nat.le_of_ble_eq_true rfl, Nat.le_of_ble_eq_true rfl⟩ hf0 rfl (Nat.le_of_ble_eq_true rfl) zd_X_hash_2 rfl ?_
    cases h
  have h := iN h g2
  obtain ⟨hc2, h⟩ := bc0_s h
  exact G_xV F X EX (zk_X_rowOf_IA l hl D cB cI cJ xa qa qb sa sb pa pb da db ka ha ta wa va hb hc ea ua qn qf sn sf pn pf dn df tf an mt co ra rr zra zrr zrp i1 hc2) (rest := []) [0, 1, 2, 3, 4, 5, 6, 7, 8, 9, 10, 11, 12, 13, 14, 15, 16, 17] rfl rfl (q0 := 0) rfl cv_X_64_X rfl rfl ⟨Nat.le_of_ble_eq_true rfl, Nat.le_of_ble_eq_true rfl⟩ ⟨Nat.le_of_ble_eq_true rfl, Nat.le_of_ble_eq_true rfl⟩ rfl (Nat.le_of_ble_eq_true rfl) zd_X_hash_2 rfl

