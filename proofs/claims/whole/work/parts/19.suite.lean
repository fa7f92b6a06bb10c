def zf_X_requireFormat (i0 : Int32) : Option (Unit) := if i0 < 0 then none else if i0 ≤ (1 : Int32) then some () else none
set_option maxHeartbeats 4000000 in
set_option maxRecDepth 100000 in
theorem zk_X_requireFormat (l : Launch) (D : va_G) (cB cI cJ : ClassId) (i0 : Int32) (h : zf_X_requireFormat i0 = some ()) : CoV l zy_X_requireFormat zw_X_requireFormat { frames := 0, cells := 0, slots := 0, locals := 0 } D cB cI cJ [.int i0] [] [] := by
  unfold zf_X_requireFormat at h
  refine CoV.ofG (cc := zc_X_requireFormat) (maxL := 1) (own := RX9) (by decide) rfl rfl rfl trivial (Nat.le_of_ble_eq_true rfl) (L0 := [(0, .int i0)]) rfl (fun k F E => ?_)
  refine G_iload_n F zd_X_requireFormat_0 rfl (j := 0) rfl ?_
  refine G_if_lt F zd_X_requireFormat_1 (tgt := 9) rfl (fun h0 => ?_) (fun h0 => ?_)
  · have h := iP h h0
    cases h
  · have h := iN h h0
    refine G_iload_n F zd_X_requireFormat_4 rfl (j := 0) rfl ?_
    refine G_iconst (v := (1 : Int32)) F zd_X_requireFormat_5 (by decide) ?_
    refine G_icmp_le F zd_X_requireFormat_6 (tgt := 19) rfl (fun h0 => ?_) (fun h0 => ?_)
    · have h := iP h h0
      exact E 19 _ zd_X_requireFormat_19
    · have h := iN h h0
      cases h

def zf_X_rowOf_qa (i1 : Int32) : Option (Unit) := if i1 = 0 then some () else if i1 = (1 : Int32) then none else if i1 = (2 : Int32) then none else none
set_option maxHeartbeats 4000000 in
set_option maxRecDepth 100000 in
theorem zk_X_rowOf_qa (l : Launch) (D : va_G) (cB cI cJ : ClassId) (xa : Nat) (qa : Nat) (qb : Nat) (sa : Nat) (sb : Nat) (pa : Nat) (pb : Nat) (da : Nat) (db : Nat) (ka : Nat) (ha : Nat) (ta : Nat) (wa : Nat) (va : Nat) (hb : Nat) (hc : Nat) (ea : Nat) (ua : Nat) (qn : Int32) (qf : Nat → Int32) (sn : Int32) (sf : Nat → Int32) (pn : Int32) (pf : Nat → Int32) (dn : Int32) (df : Nat → Int32) (tf : Nat → Int32) (an : Int32) (mt : Int32) (co : Int32) (ra : Int32) (rr : Int32) (zra : Int32) (zrr : Int32) (zrp : Int32) (i1 : Int32) (h : zf_X_rowOf_qa i1 = some ()) : CoR l zy_X_rowOf zw_X_rowOf { frames := 0, cells := 0, slots := 0, locals := 0 } D cB cI cJ [.ref xa, .int i1] [(xa, .inr (7, [.ref qa, .ref sa, .ref pa, .ref da, .ref ka, .ref wa, .ref va, .ref ea, .ref ua])), (qa, .inr (4, [.ref qb, .int qn])), (qb, .inl (cB, 160, .inl qf)), (sa, .inr (4, [.ref sb, .int sn])), (sb, .inl (cB, 200, .inl sf)), (pa, .inr (4, [.ref pb, .int pn])), (pb, .inl (cB, 64, .inl pf)), (da, .inr (4, [.ref db, .int dn])), (db, .inl (cB, 160, .inl df)), (ha, .inr (2, [.ref pa, .ref qa])), (ka, .inr (3, [.ref pa, .ref qa, .ref ha, .ref ta, .int an, .int mt, .int co])), (ta, .inl (cI, 32, .inl tf)), (wa, .inr (6, [.ref qa, .ref sa])), (va, .inr (1, [.ref qa, .ref sa])), (hb, .inr (2, [.ref pa, .ref da])), (hc, .inr (2, [.ref pa, .ref da])), (ea, .inr (5, [.ref sa, .ref da, .ref hb, .int ra, .int rr])), (ua, .inr (0, [.ref sa, .ref da, .ref hc, .int zra, .int zrr, .int zrp]))] qa [(xa, .inr (7, [.ref qa, .ref sa, .ref pa, .ref da, .ref ka, .ref wa, .ref va, .ref ea, .ref ua])), (qa, .inr (4, [.ref qb, .int qn])), (qb, .inl (cB, 160, .inl qf)), (sa, .inr (4, [.ref sb, .int sn])), (sb, .inl (cB, 200, .inl sf)), (pa, .inr (4, [.ref pb, .int pn])), (pb, .inl (cB, 64, .inl pf)), (da, .inr (4, [.ref db, .int dn])), (db, .inl (cB, 160, .inl df)), (ha, .inr (2, [.ref pa, .ref qa])), (ka, .inr (3, [.ref pa, .ref qa, .ref ha, .ref ta, .int an, .int mt, .int co])), (ta, .inl (cI, 32, .inl tf)), (wa, .inr (6, [.ref qa, .ref sa])), (va, .inr (1, [.ref qa, .ref sa])), (hb, .inr (2, [.ref pa, .ref da])), (hc, .inr (2, [.ref pa, .ref da])), (ea, .inr (5, [.ref sa, .ref da, .ref hb, .int ra, .int rr])), (ua, .inr (0, [.ref sa, .ref da, .ref hc, .int zra, .int zrr, .int zrp]))] := by
  unfold zf_X_rowOf_qa at h
  refine CoR.ofG (cc := zc_X_rowOf) (maxL := 2) (own := RX9) (by decide) rfl rfl rfl trivial (Nat.le_of_ble_eq_true rfl) (L0 := [(0, .ref xa), (1, .int i1)]) rfl (fun k F E => ?_)
  refine G_iload_n F zd_X_rowOf_0 rfl (j := 1) rfl ?_
  refine G_if_ne F zd_X_rowOf_1 (tgt := 9) rfl (fun h0 => ?_) (fun h0 => ?_)
  · have h := iN h h0
    refine G_iload_n F zd_X_rowOf_9 rfl (j := 1) rfl ?_
    refine G_iconst (v := (1 : Int32)) F zd_X_rowOf_10 (by decide) ?_
    refine G_icmp_ne F zd_X_rowOf_11 (tgt := 19) rfl (fun h0 => ?_) (fun h0 => ?_)
    · have h := iN h h0
      refine G_iload_n F zd_X_rowOf_19 rfl (j := 1) rfl ?_
      refine G_iconst (v := (2 : Int32)) F zd_X_rowOf_20 (by decide) ?_
      refine G_icmp_ne F zd_X_rowOf_21 (tgt := 29) rfl (fun h0 => ?_) (fun h0 => ?_)
      · have h := iN h h0
        cases h
      · have h := iP h h0
        refine G_aload_n F zd_X_rowOf_24 rfl (j := 0) rfl ?_
        refine G_get F fa_X_21_X (q := 0) zd_X_rowOf_25 rfl rfl ?_
        cases h
    · have h := iP h h0
      refine G_aload_n F zd_X_rowOf_14 rfl (j := 0) rfl ?_
      refine G_get F fa_X_18_X (q := 0) zd_X_rowOf_15 rfl rfl ?_
      cases h
  · have h := iP h h0
    refine G_aload_n F zd_X_rowOf_4 rfl (j := 0) rfl ?_
    refine G_get F fa_X_14_X (q := 0) zd_X_rowOf_5 rfl rfl ?_
    exact E 8 _ zd_X_rowOf_8

def zf_X_rowOf_sa (i1 : Int32) : Option (Unit) := if i1 = 0 then none else if i1 = (1 : Int32) then some () else if i1 = (2 : Int32) then none else none
set_option maxHeartbeats 4000000 in
set_option maxRecDepth 100000 in
theorem zk_X_rowOf_sa (l : Launch) (D : va_G) (cB cI cJ : ClassId) (xa : Nat) (qa : Nat) (qb : Nat) (sa : Nat) (sb : Nat) (pa : Nat) (pb : Nat) (da : Nat) (db : Nat) (ka : Nat) (ha : Nat) (ta : Nat) (wa : Nat) (va : Nat) (hb : Nat) (hc : Nat) (ea : Nat) (ua : Nat) (qn : Int32) (qf : Nat → Int32) (sn : Int32) (sf : Nat → Int32) (pn : Int32) (pf : Nat → Int32) (dn : Int32) (df : Nat → Int32) (tf : Nat → Int32) (an : Int32) (mt : Int32) (co : Int32) (ra : Int32) (rr : Int32) (zra : Int32) (zrr : Int32) (zrp : Int32) (i1 : Int32) (h : zf_X_rowOf_sa i1 = some ()) : CoR l zy_X_rowOf zw_X_rowOf { frames := 0, cells := 0, slots := 0, locals := 0 } D cB cI cJ [.ref xa, .int i1] [(xa, .inr (7, [.ref qa, .ref sa, .ref pa, .ref da, .ref ka, .ref wa, .ref va, .ref ea, .ref ua])), (qa, .inr (4, [.ref qb, .int qn])), (qb, .inl (cB, 160, .inl qf)), (sa, .inr (4, [.ref sb, .int sn])), (sb, .inl (cB, 200, .inl sf)), (pa, .inr (4, [.ref pb, .int pn])), (pb, .inl (cB, 64, .inl pf)), (da, .inr (4, [.ref db, .int dn])), (db, .inl (cB, 160, .inl df)), (ha, .inr (2, [.ref pa, .ref qa])), (ka, .inr (3, [.ref pa, .ref qa, .ref ha, .ref ta, .int an, .int mt, .int co])), (ta, .inl (cI, 32, .inl tf)), (wa, .inr (6, [.ref qa, .ref sa])), (va, .inr (1, [.ref qa, .ref sa])), (hb, .inr (2, [.ref pa, .ref da])), (hc, .inr (2, [.ref pa, .ref da])), (ea, .inr (5, [.ref sa, .ref da, .ref hb, .int ra, .int rr])), (ua, .inr (0, [.ref sa, .ref da, .ref hc, .int zra, .int zrr, .int zrp]))] sa [(xa, .inr (7, [.ref qa, .ref sa, .ref pa, .ref da, .ref ka, .ref wa, .ref va, .ref ea, .ref ua])), (qa, .inr (4, [.ref qb, .int qn])), (qb, .inl (cB, 160, .inl qf)), (sa, .inr (4, [.ref sb, .int sn])), (sb, .inl (cB, 200, .inl sf)), (pa, .inr (4, [.ref pb, .int pn])), (pb, .inl (cB, 64, .inl pf)), (da, .inr (4, [.ref db, .int dn])), (db, .inl (cB, 160, .inl df)), (ha, .inr (2, [.ref pa, .ref qa])), (ka, .inr (3, [.ref pa, .ref qa, .ref ha, .ref ta, .int an, .int mt, .int co])), (ta, .inl (cI, 32, .inl tf)), (wa, .inr (6, [.ref qa, .ref sa])), (va, .inr (1, [.ref qa, .ref sa])), (hb, .inr (2, [.ref pa, .ref da])), (hc, .inr (2, [.ref pa, .ref da])), (ea, .inr (5, [.ref sa, .ref da, .ref hb, .int ra, .int rr])), (ua, .inr (0, [.ref sa, .ref da, .ref hc, .int zra, .int zrr, .int zrp]))] := by
  unfold zf_X_rowOf_sa at h
  refine CoR.ofG (cc := zc_X_rowOf) (maxL := 2) (own := RX9) (by decide) rfl rfl rfl trivial (Nat.le_of_ble_eq_true rfl) (L0 := [(0, .ref xa), (1, .int i1)]) rfl (fun k F E => ?_)
  refine G_iload_n F zd_X_rowOf_0 rfl (j := 1) rfl ?_
  refine G_if_ne F zd_X_rowOf_1 (tgt := 9) rfl (fun h0 => ?_) (fun h0 => ?_)
  · have h := iN h h0
    refine G_iload_n F zd_X_rowOf_9 rfl (j := 1) rfl ?_
    refine G_iconst (v := (1 : Int32)) F zd_X_rowOf_10 (by decide) ?_
    refine G_icmp_ne F zd_X_rowOf_11 (tgt := 19) rfl (fun h0 => ?_) (fun h0 => ?_)
    · have h := iN h h0
      refine G_iload_n F zd_X_rowOf_19 rfl (j := 1) rfl ?_
      refine G_iconst (v := (2 : Int32)) F zd_X_rowOf_20 (by decide) ?_
      refine G_icmp_ne F zd_X_rowOf_21 (tgt := 29) rfl (fun h0 => ?_) (fun h0 => ?_)
      · have h := iN h h0
        cases h
      · have h := iP h h0
        refine G_aload_n F zd_X_rowOf_24 rfl (j := 0) rfl ?_
        refine G_get F fa_X_21_X (q := 0) zd_X_rowOf_25 rfl rfl ?_
        cases h
    · have h := iP h h0
      refine G_aload_n F zd_X_rowOf_14 rfl (j := 0) rfl ?_
      refine G_get F fa_X_18_X (q := 0) zd_X_rowOf_15 rfl rfl ?_
      exact E 18 _ zd_X_rowOf_18
  · have h := iP h h0
    refine G_aload_n F zd_X_rowOf_4 rfl (j := 0) rfl ?_
    refine G_get F fa_X_14_X (q := 0) zd_X_rowOf_5 rfl rfl ?_
    cases h

def zf_X_rowOf_pa (i1 : Int32) : Option (Unit) := if i1 = 0 then none else if i1 = (1 : Int32) then none else if i1 = (2 : Int32) then some () else none
set_option maxHeartbeats 4000000 in
set_option maxRecDepth 100000 in
theorem zk_X_rowOf_pa (l : Launch) (D : va_G) (cB cI cJ : ClassId) (xa : Nat) (qa : Nat) (qb : Nat) (sa : Nat) (sb : Nat) (pa : Nat) (pb : Nat) (da : Nat) (db : Nat) (ka : Nat) (ha : Nat) (ta : Nat) (wa : Nat) (va : Nat) (hb : Nat) (hc : Nat) (ea : Nat) (ua : Nat) (qn : Int32) (qf : Nat → Int32) (sn : Int32) (sf : Nat → Int32) (pn : Int32) (pf : Nat → Int32) (dn : Int32) (df : Nat → Int32) (tf : Nat → Int32) (an : Int32) (mt : Int32) (co : Int32) (ra : Int32) (rr : Int32) (zra : Int32) (zrr : Int32) (zrp : Int32) (i1 : Int32) (h : zf_X_rowOf_pa i1 = some ()) : CoR l zy_X_rowOf zw_X_rowOf { frames := 0, cells := 0, slots := 0, locals := 0 } D cB cI cJ [.ref xa, .int i1] [(xa, .inr (7, [.ref qa, .ref sa, .ref pa, .ref da, .ref ka, .ref wa, .ref va, .ref ea, .ref ua])), (qa, .inr (4, [.ref qb, .int qn])), (qb, .inl (cB, 160, .inl qf)), (sa, .inr (4, [.ref sb, .int sn])), (sb, .inl (cB, 200, .inl sf)), (pa, .inr (4, [.ref pb, .int pn])), (pb, .inl (cB, 64, .inl pf)), (da, .inr (4, [.ref db, .int dn])), (db, .inl (cB, 160, .inl df)), (ha, .inr (2, [.ref pa, .ref qa])), (ka, .inr (3, [.ref pa, .ref qa, .ref ha, .ref ta, .int an, .int mt, .int co])), (ta, .inl (cI, 32, .inl tf)), (wa, .inr (6, [.ref qa, .ref sa])), (va, .inr (1, [.ref qa, .ref sa])), (hb, .inr (2, [.ref pa, .ref da])), (hc, .inr (2, [.ref pa, .ref da])), (ea, .inr (5, [.ref sa, .ref da, .ref hb, .int ra, .int rr])), (ua, .inr (0, [.ref sa, .ref da, .ref hc, .int zra, .int zrr, .int zrp]))] pa [(xa, .inr (7, [.ref qa, .ref sa, .ref pa, .ref da, .ref ka, .ref wa, .ref va, .ref ea, .ref ua])), (qa, .inr (4, [.ref qb, .int qn])), (qb, .inl (cB, 160, .inl qf)), (sa, .inr (4, [.ref sb, .int sn])), (sb, .inl (cB, 200, .inl sf)), (pa, .inr (4, [.ref pb, .int pn])), (pb, .inl (cB, 64, .inl pf)), (da, .inr (4, [.ref db, .int dn])), (db, .inl (cB, 160, .inl df)), (ha, .inr (2, [.ref pa, .ref qa])), (ka, .inr (3, [.ref pa, .ref qa, .ref ha, .ref ta, .int an, .int mt, .int co])), (ta, .inl (cI, 32, .inl tf)), (wa, .inr (6, [.ref qa, .ref sa])), (va, .inr (1, [.ref qa, .ref sa])), (hb, .inr (2, [.ref pa, .ref da])), (hc, .inr (2, [.ref pa, .ref da])), (ea, .inr (5, [.ref sa, .ref da, .ref hb, .int ra, .int rr])), (ua, .inr (0, [.ref sa, .ref da, .ref hc, .int zra, .int zrr, .int zrp]))] := by
  unfold zf_X_rowOf_pa at h
  refine CoR.ofG (cc := zc_X_rowOf) (maxL := 2) (own := RX9) (by decide) rfl rfl rfl trivial (Nat.le_of_ble_eq_true rfl) (L0 := [(0, .ref xa), (1, .int i1)]) rfl (fun k F E => ?_)
  refine G_iload_n F zd_X_rowOf_0 rfl (j := 1) rfl ?_
  refine G_if_ne F zd_X_rowOf_1 (tgt := 9) rfl (fun h0 => ?_) (fun h0 => ?_)
  · have h := iN h h0
    refine G_iload_n F zd_X_rowOf_9 rfl (j := 1) rfl ?_
    refine G_iconst (v := (1 : Int32)) F zd_X_rowOf_10 (by decide) ?_
    refine G_icmp_ne F zd_X_rowOf_11 (tgt := 19) rfl (fun h0 => ?_) (fun h0 => ?_)
    · have h := iN h h0
      refine G_iload_n F zd_X_rowOf_19 rfl (j := 1) rfl ?_
      refine G_iconst (v := (2 : Int32)) F zd_X_rowOf_20 (by decide) ?_
      refine G_icmp_ne F zd_X_rowOf_21 (tgt := 29) rfl (fun h0 => ?_) (fun h0 => ?_)
      · have h := iN h h0
        cases h
      · have h := iP h h0
        refine G_aload_n F zd_X_rowOf_24 rfl (j := 0) rfl ?_
        refine G_get F fa_X_21_X (q := 0) zd_X_rowOf_25 rfl rfl ?_
        exact E 28 _ zd_X_rowOf_28
    · have h := iP h h0
      refine G_aload_n F zd_X_rowOf_14 rfl (j := 0) rfl ?_
      refine G_get F fa_X_18_X (q := 0) zd_X_rowOf_15 rfl rfl ?_
      cases h
  · have h := iP h h0
    refine G_aload_n F zd_X_rowOf_4 rfl (j := 0) rfl ?_
    refine G_get F fa_X_14_X (q := 0) zd_X_rowOf_5 rfl rfl ?_
    cases h

def zf_X_put_L53 (j2 : Int64) (i4 : Int32) : Nat → (Int32) → (Int32) → (Nat → Int32) → Option (Int32 × Int32 × (Nat → Int32))
  | 0, _, _, _ => none
  | n + 1, v2, v3, v4 => if i4 ≤ v2 then some (v2, v3, v4) else bc2 (zf_R_add v3 (160) v4 ((lush j2 ((8 : Int32) * v2)).toInt32)) fun v5 v6 => bnd (v2 + (1 : Int32)) fun v7 => zf_X_put_L53 j2 i4 n v7 v5 v6
theorem zf_X_put_L53_0 (j2 : Int64) (i4 : Int32) (v2 : Int32) (v3 : Int32) (v4 : Nat → Int32) : zf_X_put_L53 j2 i4 0 v2 v3 v4 = none := rfl
theorem zf_X_put_L53_s (j2 : Int64) (i4 : Int32) (n : Nat) (v2 : Int32) (v3 : Int32) (v4 : Nat → Int32) : zf_X_put_L53 j2 i4 (n + 1) v2 v3 v4 = (if i4 ≤ v2 then some (v2, v3, v4) else bc2 (zf_R_add v3 (160) v4 ((lush j2 ((8 : Int32) * v2)).toInt32)) fun v5 v6 => bnd (v2 + (1 : Int32)) fun v7 => zf_X_put_L53 j2 i4 n v7 v5 v6) := rfl
def zf_X_put_L53b (j2 : Int64) (i4 : Int32) : Nat → (Int32) → (Int32) → (Nat → Int32) → Option (Int32 × Int32 × (Nat → Int32))
  | 0, _, _, _ => none
  | n + 1, v12, v13, v14 => if i4 ≤ v12 then some (v12, v13, v14) else bc2 (zf_R_add v13 (200) v14 ((lush j2 ((8 : Int32) * v12)).toInt32)) fun v15 v16 => bnd (v12 + (1 : Int32)) fun v17 => zf_X_put_L53b j2 i4 n v17 v15 v16
theorem zf_X_put_L53b_0 (j2 : Int64) (i4 : Int32) (v12 : Int32) (v13 : Int32) (v14 : Nat → Int32) : zf_X_put_L53b j2 i4 0 v12 v13 v14 = none := rfl
theorem zf_X_put_L53b_s (j2 : Int64) (i4 : Int32) (n : Nat) (v12 : Int32) (v13 : Int32) (v14 : Nat → Int32) : zf_X_put_L53b j2 i4 (n + 1) v12 v13 v14 = (if i4 ≤ v12 then some (v12, v13, v14) else bc2 (zf_R_add v13 (200) v14 ((lush j2 ((8 : Int32) * v12)).toInt32)) fun v15 v16 => bnd (v12 + (1 : Int32)) fun v17 => zf_X_put_L53b j2 i4 n v17 v15 v16) := rfl
def zf_X_put_L53c (j2 : Int64) (i4 : Int32) : Nat → (Int32) → (Int32) → (Nat → Int32) → Option (Int32 × Int32 × (Nat → Int32))
  | 0, _, _, _ => none
  | n + 1, v22, v23, v24 => if i4 ≤ v22 then some (v22, v23, v24) else bc2 (zf_R_add v23 (64) v24 ((lush j2 ((8 : Int32) * v22)).toInt32)) fun v25 v26 => bnd (v22 + (1 : Int32)) fun v27 => zf_X_put_L53c j2 i4 n v27 v25 v26
theorem zf_X_put_L53c_0 (j2 : Int64) (i4 : Int32) (v22 : Int32) (v23 : Int32) (v24 : Nat → Int32) : zf_X_put_L53c j2 i4 0 v22 v23 v24 = none := rfl
theorem zf_X_put_L53c_s (j2 : Int64) (i4 : Int32) (n : Nat) (v22 : Int32) (v23 : Int32) (v24 : Nat → Int32) : zf_X_put_L53c j2 i4 (n + 1) v22 v23 v24 = (if i4 ≤ v22 then some (v22, v23, v24) else bc2 (zf_R_add v23 (64) v24 ((lush j2 ((8 : Int32) * v22)).toInt32)) fun v25 v26 => bnd (v22 + (1 : Int32)) fun v27 => zf_X_put_L53c j2 i4 n v27 v25 v26) := rfl
def zf_X_put (qn : Int32) (qf : Nat → Int32) (sn : Int32) (sf : Nat → Int32) (pn : Int32) (pf : Nat → Int32) (i1 : Int32) (j2 : Int64) (i4 : Int32) : Option (Int32 × (Nat → Int32) × Int32 × (Nat → Int32) × Int32 × (Nat → Int32)) := if i1 = 0 then bc0 (zf_X_rowOf_qa i1) fun _ => if i4 < (1 : Int32) then none else if i4 ≤ (8 : Int32) then bc1 (zf_R_room qn (160)) fun v1 => if i4 ≤ v1 then bc3 (zf_X_put_L53 j2 i4 1000 (0 : Int32) qn qf) fun x8 x9 x10 => some (x9, x10, sn, sf, pn, pf) else none else none else if i1 = (1 : Int32) then bc0 (zf_X_rowOf_sa i1) fun _ => if i4 < (1 : Int32) then none else if i4 ≤ (8 : Int32) then bc1 (zf_R_room sn (200)) fun v11 => if i4 ≤ v11 then bc3 (zf_X_put_L53b j2 i4 1000 (0 : Int32) sn sf) fun x18 x19 x20 => some (qn, qf, x19, x20, pn, pf) else none else none else if i1 = (2 : Int32) then bc0 (zf_X_rowOf_pa i1) fun _ => if i4 < (1 : Int32) then none else if i4 ≤ (8 : Int32) then bc1 (zf_R_room pn (64)) fun v21 => if i4 ≤ v21 then bc3 (zf_X_put_L53c j2 i4 1000 (0 : Int32) pn pf) fun x28 x29 x30 => some (qn, qf, sn, sf, x29, x30) else none else none else none
set_option maxHeartbeats 4000000 in
set_option maxRecDepth 100000 in
theorem zl_X_put_53 {k : GC} {l : Launch} {D : va_G} {cB cI cJ : ClassId} (F : GF k l { frames := 1, cells := 0, slots := 0, locals := 21 } zc_X_put 7 RX9 D cB cI cJ) (sn : Int32) (sf : Nat → Int32) (pn : Int32) (pf : Nat → Int32) (dn : Int32) (df : Nat → Int32) (tf : Nat → Int32) (an : Int32) (mt : Int32) (co : Int32) (ra : Int32) (rr : Int32) (zra : Int32) (zrr : Int32) (zrp : Int32) (i1 : Int32) (j2 : Int64) (i4 : Int32) (xa : Nat) (qa : Nat) (qb : Nat) (sa : Nat) (sb : Nat) (pa : Nat) (pb : Nat) (da : Nat) (db : Nat) (ka : Nat) (ha : Nat) (ta : Nat) (wa : Nat) (va : Nat) (hb : Nat) (hc : Nat) (ea : Nat) (ua : Nat) : ∀ (n : Nat) (v2 : Int32) (v3 : Int32) (v4 : Nat → Int32) (w2 : Int32) (w3 : Int32) (w4 : Nat → Int32), zf_X_put_L53 j2 i4 n v2 v3 v4 = some (w2, w3, w4) → G D 7 k 0 0 79 [(0, .ref xa), (1, .int i1), (2, .long j2), (4, .int i4), (5, .ref qa), (6, .int w2)] [] [(xa, .inr (7, [.ref qa, .ref sa, .ref pa, .ref da, .ref ka, .ref wa, .ref va, .ref ea, .ref ua])), (qa, .inr (4, [.ref qb, .int w3])), (qb, .inl (cB, 160, .inl w4)), (sa, .inr (4, [.ref sb, .int sn])), (sb, .inl (cB, 200, .inl sf)), (pa, .inr (4, [.ref pb, .int pn])), (pb, .inl (cB, 64, .inl pf)), (da, .inr (4, [.ref db, .int dn])), (db, .inl (cB, 160, .inl df)), (ha, .inr (2, [.ref pa, .ref qa])), (ka, .inr (3, [.ref pa, .ref qa, .ref ha, .ref ta, .int an, .int mt, .int co])), (ta, .inl (cI, 32, .inl tf)), (wa, .inr (6, [.ref qa, .ref sa])), (va, .inr (1, [.ref qa, .ref sa])), (hb, .inr (2, [.ref pa, .ref da])), (hc, .inr (2, [.ref pa, .ref da])), (ea, .inr (5, [.ref sa, .ref da, .ref hb, .int ra, .int rr])), (ua, .inr (0, [.ref sa, .ref da, .ref hc, .int zra, .int zrr, .int zrp]))] → G D 7 k 0 0 53 [(0, .ref xa), (1, .int i1), (2, .long j2), (4, .int i4), (5, .ref qa), (6, .int v2)] [] [(xa, .inr (7, [.ref qa, .ref sa, .ref pa, .ref da, .ref ka, .ref wa, .ref va, .ref ea, .ref ua])), (qa, .inr (4, [.ref qb, .int v3])), (qb, .inl (cB, 160, .inl v4)), (sa, .inr (4, [.ref sb, .int sn])), (sb, .inl (cB, 200, .inl sf)), (pa, .inr (4, [.ref pb, .int pn])), (pb, .inl (cB, 64, .inl pf)), (da, .inr (4, [.ref db, .int dn])), (db, .inl (cB, 160, .inl df)), (ha, .inr (2, [.ref pa, .ref qa])), (ka, .inr (3, [.ref pa, .ref qa, .ref ha, .ref ta, .int an, .int mt, .int co])), (ta, .inl (cI, 32, .inl tf)), (wa, .inr (6, [.ref qa, .ref sa])), (va, .inr (1, [.ref qa, .ref sa])), (hb, .inr (2, [.ref pa, .ref da])), (hc, .inr (2, [.ref pa, .ref da])), (ea, .inr (5, [.ref sa, .ref da, .ref hb, .int ra, .int rr])), (ua, .inr (0, [.ref sa, .ref da, .ref hc, .int zra, .int zrr, .int zrp]))] := by
  intro n
  induction n with
  | zero =>
    intro v2 v3 v4 w2 w3 w4 h
    rw [zf_X_put_L53_0] at h
    cases h
  | succ n ih =>
    intro v2 v3 v4 w2 w3 w4 h hx
    have h := (zf_X_put_L53_s j2 i4 n v2 v3 v4).symm.trans h
    refine G_iload F zd_X_put_53 (j := 5) rfl ?_
    refine G_iload F zd_X_put_55 (j := 3) rfl ?_
    refine G_icmp_ge F zd_X_put_57 (tgt := 79) rfl (fun h0 => ?_) (fun h0 => ?_)
    · have h := iP h h0
      obtain ⟨q1, q2, q3⟩ := inj3 h
      subst q1
      subst q2
      subst q3
      exact G_lv [0, 1, 2, 3, 4, 5] rfl hx
    · have h := iN h h0
      refine G_aload F zd_X_put_60 (j := 4) rfl ?_
      refine G_lload_n F zd_X_put_62 rfl (j := 2) rfl ?_
      refine G_bipush (v := (8 : Int32)) F zd_X_put_63 (by decide) ?_
      refine G_iload F zd_X_put_65 (j := 5) rfl ?_
      refine G_imul F zd_X_put_67 ?_
      refine G_lushr F zd_X_put_68 ?_
      refine G_l2i F zd_X_put_69 ?_
      obtain ⟨v5, v6, hc70, h⟩ := bc2_s h
      refine G_callvV F (zk_R_add l D cB cI cJ qa qb v3 (160) v4 ((lush j2 ((8 : Int32) * v2)).toInt32) v5 v6 hc70) (rest := []) [1, 2] rfl rfl rfl (ws' := [(xa, .inr (7, [.ref qa, .ref sa, .ref pa, .ref da, .ref ka, .ref wa, .ref va, .ref ea, .ref ua])), (qa, .inr (4, [.ref qb, .int v5])), (qb, .inl (cB, 160, .inl v6)), (sa, .inr (4, [.ref sb, .int sn])), (sb, .inl (cB, 200, .inl sf)), (pa, .inr (4, [.ref pb, .int pn])), (pb, .inl (cB, 64, .inl pf)), (da, .inr (4, [.ref db, .int dn])), (db, .inl (cB, 160, .inl df)), (ha, .inr (2, [.ref pa, .ref qa])), (ka, .inr (3, [.ref pa, .ref qa, .ref ha, .ref ta, .int an, .int mt, .int co])), (ta, .inl (cI, 32, .inl tf)), (wa, .inr (6, [.ref qa, .ref sa])), (va, .inr (1, [.ref qa, .ref sa])), (hb, .inr (2, [.ref pa, .ref da])), (hc, .inr (2, [.ref pa, .ref da])), (ea, .inr (5, [.ref sa, .ref da, .ref hb, .int ra, .int rr])), (ua, .inr (0, [.ref sa, .ref da, .ref hc, .int zra, .int zrr, .int zrp]))]) rfl (q0 := 1) rfl cv_X_84_R rfl rfl ⟨Nat.le_of_ble_eq_true rfl, Nat.le_of_ble_eq_true rfl⟩ hf0 rfl (Nat.le_of_ble_eq_true rfl) zd_X_put_70 rfl ?_
      obtain ⟨v7, ev7, h⟩ := bnd_s h
      refine G_iinc F zd_X_put_73 (j := 5) rfl (w := (1 : Int32)) (by decide) ev7 (by decide) (L' := [(6, .int v7), (0, .ref xa), (1, .int i1), (2, .long j2), (4, .int i4), (5, .ref qa)]) rfl ?_
      refine G_goto F zd_X_put_76 (tgt := 53) rfl ?_
      exact G_lv [1, 2, 3, 4, 5, 0] rfl (ih _ _ _ _ _ _ h hx)
set_option maxHeartbeats 4000000 in
set_option maxRecDepth 100000 in
theorem zl_X_put_53b {k : GC} {l : Launch} {D : va_G} {cB cI cJ : ClassId} (F : GF k l { frames := 1, cells := 0, slots := 0, locals := 21 } zc_X_put 7 RX9 D cB cI cJ) (qn : Int32) (qf : Nat → Int32) (pn : Int32) (pf : Nat → Int32) (dn : Int32) (df : Nat → Int32) (tf : Nat → Int32) (an : Int32) (mt : Int32) (co : Int32) (ra : Int32) (rr : Int32) (zra : Int32) (zrr : Int32) (zrp : Int32) (i1 : Int32) (j2 : Int64) (i4 : Int32) (xa : Nat) (qa : Nat) (qb : Nat) (sa : Nat) (sb : Nat) (pa : Nat) (pb : Nat) (da : Nat) (db : Nat) (ka : Nat) (ha : Nat) (ta : Nat) (wa : Nat) (va : Nat) (hb : Nat) (hc : Nat) (ea : Nat) (ua : Nat) : ∀ (n : Nat) (v12 : Int32) (v13 : Int32) (v14 : Nat → Int32) (w12 : Int32) (w13 : Int32) (w14 : Nat → Int32), zf_X_put_L53b j2 i4 n v12 v13 v14 = some (w12, w13, w14) → G D 7 k 0 0 79 [(0, .ref xa), (1, .int i1), (2, .long j2), (4, .int i4), (5, .ref sa), (6, .int w12)] [] [(xa, .inr (7, [.ref qa, .ref sa, .ref pa, .ref da, .ref ka, .ref wa, .ref va, .ref ea, .ref ua])), (qa, .inr (4, [.ref qb, .int qn])), (qb, .inl (cB, 160, .inl qf)), (sa, .inr (4, [.ref sb, .int w13])), (sb, .inl (cB, 200, .inl w14)), (pa, .inr (4, [.ref pb, .int pn])), (pb, .inl (cB, 64, .inl pf)), (da, .inr (4, [.ref db, .int dn])), (db, .inl (cB, 160, .inl df)), (ha, .inr (2, [.ref pa, .ref qa])), (ka, .inr (3, [.ref pa, .ref qa, .ref ha, .ref ta, .int an, .int mt, .int co])), (ta, .inl (cI, 32, .inl tf)), (wa, .inr (6, [.ref qa, .ref sa])), (va, .inr (1, [.ref qa, .ref sa])), (hb, .inr (2, [.ref pa, .ref da])), (hc, .inr (2, [.ref pa, .ref da])), (ea, .inr (5, [.ref sa, .ref da, .ref hb, .int ra, .int rr])), (ua, .inr (0, [.ref sa, .ref da, .ref hc, .int zra, .int zrr, .int zrp]))] → G D 7 k 0 0 53 [(0, .ref xa), (1, .int i1), (2, .long j2), (4, .int i4), (5, .ref sa), (6, .int v12)] [] [(xa, .inr (7, [.ref qa, .ref sa, .ref pa, .ref da, .ref ka, .ref wa, .ref va, .ref ea, .ref ua])), (qa, .inr (4, [.ref qb, .int qn])), (qb, .inl (cB, 160, .inl qf)), (sa, .inr (4, [.ref sb, .int v13])), (sb, .inl (cB, 200, .inl v14)), (pa, .inr (4, [.ref pb, .int pn])), (pb, .inl (cB, 64, .inl pf)), (da, .inr (4, [.ref db, .int dn])), (db, .inl (cB, 160, .inl df)), (ha, .inr (2, [.ref pa, .ref qa])), (ka, .inr (3, [.ref pa, .ref qa, .ref ha, .ref ta, .int an, .int mt, .int co])), (ta, .inl (cI, 32, .inl tf)), (wa, .inr (6, [.ref qa, .ref sa])), (va, .inr (1, [.ref qa, .ref sa])), (hb, .inr (2, [.ref pa, .ref da])), (hc, .inr (2, [.ref pa, .ref da])), (ea, .inr (5, [.ref sa, .ref da, .ref hb, .int ra, .int rr])), (ua, .inr (0, [.ref sa, .ref da, .ref hc, .int zra, .int zrr, .int zrp]))] := by
  intro n
  induction n with
  | zero =>
    intro v12 v13 v14 w12 w13 w14 h
    rw [zf_X_put_L53b_0] at h
    cases h
  | succ n ih =>
    intro v12 v13 v14 w12 w13 w14 h hx
    have h := (zf_X_put_L53b_s j2 i4 n v12 v13 v14).symm.trans h
    refine G_iload F zd_X_put_53 (j := 5) rfl ?_
    refine G_iload F zd_X_put_55 (j := 3) rfl ?_
    refine G_icmp_ge F zd_X_put_57 (tgt := 79) rfl (fun h0 => ?_) (fun h0 => ?_)
    · have h := iP h h0
      obtain ⟨q1, q2, q3⟩ := inj3 h
      subst q1
      subst q2
      subst q3
      exact G_lv [0, 1, 2, 3, 4, 5] rfl hx
    · have h := iN h h0
      refine G_aload F zd_X_put_60 (j := 4) rfl ?_
      refine G_lload_n F zd_X_put_62 rfl (j := 2) rfl ?_
      refine G_bipush (v := (8 : Int32)) F zd_X_put_63 (by decide) ?_
      refine G_iload F zd_X_put_65 (j := 5) rfl ?_
      refine G_imul F zd_X_put_67 ?_
      refine G_lushr F zd_X_put_68 ?_
      refine G_l2i F zd_X_put_69 ?_
      obtain ⟨v15, v16, hc70, h⟩ := bc2_s h
      refine G_callvV F (zk_R_add l D cB cI cJ sa sb v13 (200) v14 ((lush j2 ((8 : Int32) * v12)).toInt32) v15 v16 hc70) (rest := []) [3, 4] rfl rfl rfl (ws' := [(xa, .inr (7, [.ref qa, .ref sa, .ref pa, .ref da, .ref ka, .ref wa, .ref va, .ref ea, .ref ua])), (qa, .inr (4, [.ref qb, .int qn])), (qb, .inl (cB, 160, .inl qf)), (sa, .inr (4, [.ref sb, .int v15])), (sb, .inl (cB, 200, .inl v16)), (pa, .inr (4, [.ref pb, .int pn])), (pb, .inl (cB, 64, .inl pf)), (da, .inr (4, [.ref db, .int dn])), (db, .inl (cB, 160, .inl df)), (ha, .inr (2, [.ref pa, .ref qa])), (ka, .inr (3, [.ref pa, .ref qa, .ref ha, .ref ta, .int an, .int mt, .int co])), (ta, .inl (cI, 32, .inl tf)), (wa, .inr (6, [.ref qa, .ref sa])), (va, .inr (1, [.ref qa, .ref sa])), (hb, .inr (2, [.ref pa, .ref da])), (hc, .inr (2, [.ref pa, .ref da])), (ea, .inr (5, [.ref sa, .ref da, .ref hb, .int ra, .int rr])), (ua, .inr (0, [.ref sa, .ref da, .ref hc, .int zra, .int zrr, .int zrp]))]) rfl (q0 := 3) rfl cv_X_84_R rfl rfl ⟨Nat.le_of_ble_eq_true rfl, Nat.le_of_ble_eq_true rfl⟩ hf0 rfl (Nat.le_of_ble_eq_true rfl) zd_X_put_70 rfl ?_
      obtain ⟨v17, ev17, h⟩ := bnd_s h
      refine G_iinc F zd_X_put_73 (j := 5) rfl (w := (1 : Int32)) (by decide) ev17 (by decide) (L' := [(6, .int v17), (0, .ref xa), (1, .int i1), (2, .long j2), (4, .int i4), (5, .ref sa)]) rfl ?_
      refine G_goto F zd_X_put_76 (tgt := 53) rfl ?_
      exact G_lv [1, 2, 3, 4, 5, 0] rfl (ih _ _ _ _ _ _ h hx)
set_option maxHeartbeats 4000000 in
set_option maxRecDepth 100000 in
theorem zl_X_put_53c {k : GC} {l : Launch} {D : va_G} {cB cI cJ : ClassId} (F : GF k l { frames := 1, cells := 0, slots := 0, locals := 21 } zc_X_put 7 RX9 D cB cI cJ) (qn : Int32) (qf : Nat → Int32) (sn : Int32) (sf : Nat → Int32) (dn : Int32) (df : Nat → Int32) (tf : Nat → Int32) (an : Int32) (mt : Int32) (co : Int32) (ra : Int32) (rr : Int32) (zra : Int32) (zrr : Int32) (zrp : Int32) (i1 : Int32) (j2 : Int64) (i4 : Int32) (xa : Nat) (qa : Nat) (qb : Nat) (sa : Nat) (sb : Nat) (pa : Nat) (pb : Nat) (da : Nat) (db : Nat) (ka : Nat) (ha : Nat) (ta : Nat) (wa : Nat) (va : Nat) (hb : Nat) (hc : Nat) (ea : Nat) (ua : Nat) : ∀ (n : Nat) (v22 : Int32) (v23 : Int32) (v24 : Nat → Int32) (w22 : Int32) (w23 : Int32) (w24 : Nat → Int32), zf_X_put_L53c j2 i4 n v22 v23 v24 = some (w22, w23, w24) → G D 7 k 0 0 79 [(0, .ref xa), (1, .int i1), (2, .long j2), (4, .int i4), (5, .ref pa), (6, .int w22)] [] [(xa, .inr (7, [.ref qa, .ref sa, .ref pa, .ref da, .ref ka, .ref wa, .ref va, .ref ea, .ref ua])), (qa, .inr (4, [.ref qb, .int qn])), (qb, .inl (cB, 160, .inl qf)), (sa, .inr (4, [.ref sb, .int sn])), (sb, .inl (cB, 200, .inl sf)), (pa, .inr (4, [.ref pb, .int w23])), (pb, .inl (cB, 64, .inl w24)), (da, .inr (4, [.ref db, .int dn])), (db, .inl (cB, 160, .inl df)), (ha, .inr (2, [.ref pa, .ref qa])), (ka, .inr (3, [.ref pa, .ref qa, .ref ha, .ref ta, .int an, .int mt, .int co])), (ta, .inl (cI, 32, .inl tf)), (wa, .inr (6, [.ref qa, .ref sa])), (va, .inr (1, [.ref qa, .ref sa])), (hb, .inr (2, [.ref pa, .ref da])), (hc, .inr (2, [.ref pa, .ref da])), (ea, .inr (5, [.ref sa, .ref da, .ref hb, .int ra, .int rr])), (ua, .inr (0, [.ref sa, .ref da, .ref hc, .int zra, .int zrr, .int zrp]))] → G D 7 k 0 0 53 [(0, .ref xa), (1, .int i1), (2, .long j2), (4, .int i4), (5, .ref pa), (6, .int v22)] [] [(xa, .inr (7, [.ref qa, .ref sa, .ref pa, .ref da, .ref ka, .ref wa, .ref va, .ref ea, .ref ua])), (qa, .inr (4, [.ref qb, .int qn])), (qb, .inl (cB, 160, .inl qf)), (sa, .inr (4, [.ref sb, .int sn])), (sb, .inl (cB, 200, .inl sf)), (pa, .inr (4, [.ref pb, .int v23])), (pb, .inl (cB, 64, .inl v24)), (da, .inr (4, [.ref db, .int dn])), (db, .inl (cB, 160, .inl df)), (ha, .inr (2, [.ref pa, .ref qa])), (ka, .inr (3, [.ref pa, .ref qa, .ref ha, .ref ta, .int an, .int mt, .int co])), (ta, .inl (cI, 32, .inl tf)), (wa, .inr (6, [.ref qa, .ref sa])), (va, .inr (1, [.ref qa, .ref sa])), (hb, .inr (2, [.ref pa, .ref da])), (hc, .inr (2, [.ref pa, .ref da])), (ea, .inr (5, [.ref sa, .ref da, .ref hb, .int ra, .int rr])), (ua, .inr (0, [.ref sa, .ref da, .ref hc, .int zra, .int zrr, .int zrp]))] := by
  intro n
  induction n with
  | zero =>
    intro v22 v23 v24 w22 w23 w24 h
    rw [zf_X_put_L53c_0] at h
    cases h
  | succ n ih =>
    intro v22 v23 v24 w22 w23 w24 h hx
    have h := (zf_X_put_L53c_s j2 i4 n v22 v23 v24).symm.trans h
    refine G_iload F zd_X_put_53 (j := 5) rfl ?_
    refine G_iload F zd_X_put_55 (j := 3) rfl ?_
    refine G_icmp_ge F zd_X_put_57 (tgt := 79) rfl (fun h0 => ?_) (fun h0 => ?_)
    · have h := iP h h0
      obtain ⟨q1, q2, q3⟩ := inj3 h
      subst q1
      subst q2
      subst q3
      exact G_lv [0, 1, 2, 3, 4, 5] rfl hx
    · have h := iN h h0
      refine G_aload F zd_X_put_60 (j := 4) rfl ?_
      refine G_lload_n F zd_X_put_62 rfl (j := 2) rfl ?_
      refine G_bipush (v := (8 : Int32)) F zd_X_put_63 (by decide) ?_
      refine G_iload F zd_X_put_65 (j := 5) rfl ?_
      refine G_imul F zd_X_put_67 ?_
      refine G_lushr F zd_X_put_68 ?_
      refine G_l2i F zd_X_put_69 ?_
      obtain ⟨v25, v26, hc70, h⟩ := bc2_s h
      refine G_callvV F (zk_R_add l D cB cI cJ pa pb v23 (64) v24 ((lush j2 ((8 : Int32) * v22)).toInt32) v25 v26 hc70) (rest := []) [5, 6] rfl rfl rfl (ws' := [(xa, .inr (7, [.ref qa, .ref sa, .ref pa, .ref da, .ref ka, .ref wa, .ref va, .ref ea, .ref ua])), (qa, .inr (4, [.ref qb, .int qn])), (qb, .inl (cB, 160, .inl qf)), (sa, .inr (4, [.ref sb, .int sn])), (sb, .inl (cB, 200, .inl sf)), (pa, .inr (4, [.ref pb, .int v25])), (pb, .inl (cB, 64, .inl v26)), (da, .inr (4, [.ref db, .int dn])), (db, .inl (cB, 160, .inl df)), (ha, .inr (2, [.ref pa, .ref qa])), (ka, .inr (3, [.ref pa, .ref qa, .ref ha, .ref ta, .int an, .int mt, .int co])), (ta, .inl (cI, 32, .inl tf)), (wa, .inr (6, [.ref qa, .ref sa])), (va, .inr (1, [.ref qa, .ref sa])), (hb, .inr (2, [.ref pa, .ref da])), (hc, .inr (2, [.ref pa, .ref da])), (ea, .inr (5, [.ref sa, .ref da, .ref hb, .int ra, .int rr])), (ua, .inr (0, [.ref sa, .ref da, .ref hc, .int zra, .int zrr, .int zrp]))]) rfl (q0 := 5) rfl cv_X_84_R rfl rfl ⟨Nat.le_of_ble_eq_true rfl, Nat.le_of_ble_eq_true rfl⟩ hf0 rfl (Nat.le_of_ble_eq_true rfl) zd_X_put_70 rfl ?_
      obtain ⟨v27, ev27, h⟩ := bnd_s h
      refine G_iinc F zd_X_put_73 (j := 5) rfl (w := (1 : Int32)) (by decide) ev27 (by decide) (L' := [(6, .int v27), (0, .ref xa), (1, .int i1), (2, .long j2), (4, .int i4), (5, .ref pa)]) rfl ?_
      refine G_goto F zd_X_put_76 (tgt := 53) rfl ?_
      exact G_lv [1, 2, 3, 4, 5, 0] rfl (ih _ _ _ _ _ _ h hx)
set_option maxHeartbeats 4000000 in
set_option maxRecDepth 100000 in
theorem zk_X_put (l : Launch) (D : va_G) (cB cI cJ : ClassId) (xa : Nat) (qa : Nat) (qb : Nat) (sa : Nat) (sb : Nat) (pa : Nat) (pb : Nat) (da : Nat) (db : Nat) (ka : Nat) (ha : Nat) (ta : Nat) (wa : Nat) (va : Nat) (hb : Nat) (hc : Nat) (ea : Nat) (ua : Nat) (qn : Int32) (qf : Nat → Int32) (sn : Int32) (sf : Nat → Int32) (pn : Int32) (pf : Nat → Int32) (dn : Int32) (df : Nat → Int32) (tf : Nat → Int32) (an : Int32) (mt : Int32) (co : Int32) (ra : Int32) (rr : Int32) (zra : Int32) (zrr : Int32) (zrp : Int32) (i1 : Int32) (j2 : Int64) (i4 : Int32) (qn' : Int32) (qf' : Nat → Int32) (sn' : Int32) (sf' : Nat → Int32) (pn' : Int32) (pf' : Nat → Int32) (h : zf_X_put qn qf sn sf pn pf i1 j2 i4 = some (qn', qf', sn', sf', pn', pf')) : CoV l zy_X_put zw_X_put { frames := 1, cells := 0, slots := 0, locals := 21 } D cB cI cJ [.ref xa, .int i1, .long j2, .int i4] [(xa, .inr (7, [.ref qa, .ref sa, .ref pa, .ref da, .ref ka, .ref wa, .ref va, .ref ea, .ref ua])), (qa, .inr (4, [.ref qb, .int qn])), (qb, .inl (cB, 160, .inl qf)), (sa, .inr (4, [.ref sb, .int sn])), (sb, .inl (cB, 200, .inl sf)), (pa, .inr (4, [.ref pb, .int pn])), (pb, .inl (cB, 64, .inl pf)), (da, .inr (4, [.ref db, .int dn])), (db, .inl (cB, 160, .inl df)), (ha, .inr (2, [.ref pa, .ref qa])), (ka, .inr (3, [.ref pa, .ref qa, .ref ha, .ref ta, .int an, .int mt, .int co])), (ta, .inl (cI, 32, .inl tf)), (wa, .inr (6, [.ref qa, .ref sa])), (va, .inr (1, [.ref qa, .ref sa])), (hb, .inr (2, [.ref pa, .ref da])), (hc, .inr (2, [.ref pa, .ref da])), (ea, .inr (5, [.ref sa, .ref da, .ref hb, .int ra, .int rr])), (ua, .inr (0, [.ref sa, .ref da, .ref hc, .int zra, .int zrr, .int zrp]))] [(xa, .inr (7, [.ref qa, .ref sa, .ref pa, .ref da, .ref ka, .ref wa, .ref va, .ref ea, .ref ua])), (qa, .inr (4, [.ref qb, .int qn'])), (qb, .inl (cB, 160, .inl qf')), (sa, .inr (4, [.ref sb, .int sn'])), (sb, .inl (cB, 200, .inl sf')), (pa, .inr (4, [.ref pb, .int pn'])), (pb, .inl (cB, 64, .inl pf')), (da, .inr (4, [.ref db, .int dn])), (db, .inl (cB, 160, .inl df)), (ha, .inr (2, [.ref pa, .ref qa])), (ka, .inr (3, [.ref pa, .ref qa, .ref ha, .ref ta, .int an, .int mt, .int co])), (ta, .inl (cI, 32, .inl tf)), (wa, .inr (6, [.ref qa, .ref sa])), (va, .inr (1, [.ref qa, .ref sa])), (hb, .inr (2, [.ref pa, .ref da])), (hc, .inr (2, [.ref pa, .ref da])), (ea, .inr (5, [.ref sa, .ref da, .ref hb, .int ra, .int rr])), (ua, .inr (0, [.ref sa, .ref da, .ref hc, .int zra, .int zrr, .int zrp]))] := by
  unfold zf_X_put at h
  refine CoV.ofG (cc := zc_X_put) (maxL := 7) (own := RX9) (by decide) rfl rfl rfl trivial (Nat.le_of_ble_eq_true rfl) (L0 := [(0, .ref xa), (1, .int i1), (2, .long j2), (4, .int i4)]) rfl (fun k F E => ?_)
  refine G_aload_n F zd_X_put_0 rfl (j := 0) rfl ?_
  refine G_iload_n F zd_X_put_1 rfl (j := 1) rfl ?_
  by_cases g0 : i1 = 0
  · have h := iP h g0
    obtain ⟨hc2, h⟩ := bc0_s h
    refine G_callrV0 F (zk_X_rowOf_qa l D cB cI cJ xa qa qb sa sb pa pb da db ka ha ta wa va hb hc ea ua qn qf sn sf pn pf dn df tf an mt co ra rr zra zrr zrp i1 hc2) (rest := []) [0, 1, 2, 3, 4, 5, 6, 7, 8, 9, 10, 11, 12, 13, 14, 15, 16, 17] rfl rfl (q0 := 0) rfl cv_X_64_X rfl rfl ⟨Nat.le_of_ble_eq_true rfl, Nat.le_of_ble_eq_true rfl⟩ hf0 rfl (Nat.le_of_ble_eq_true rfl) zd_X_put_2 rfl ?_
    refine G_astore F zd_X_put_5 (by decide) (L' := [(5, .ref qa), (0, .ref xa), (1, .int i1), (2, .long j2), (4, .int i4)]) rfl ?_
    refine G_iload F zd_X_put_7 (j := 4) rfl ?_
    refine G_iconst (v := (1 : Int32)) F zd_X_put_9 (by decide) ?_
    refine G_icmp_lt F zd_X_put_10 (tgt := 20) rfl (fun h0 => ?_) (fun h0 => ?_)
    · have h := iP h h0
      cases h
    · have h := iN h h0
      refine G_iload F zd_X_put_13 (j := 4) rfl ?_
      refine G_bipush (v := (8 : Int32)) F zd_X_put_15 (by decide) ?_
      refine G_icmp_le F zd_X_put_17 (tgt := 30) rfl (fun h0 => ?_) (fun h0 => ?_)
      · have h := iP h h0
        refine G_iload F zd_X_put_30 (j := 4) rfl ?_
        refine G_aload F zd_X_put_32 (j := 0) rfl ?_
        obtain ⟨v1, hc34, h⟩ := bc1_s h
        refine G_calliV0 F (zk_R_room l D cB cI cJ qa qb qn (160) qf v1 hc34) (rest := [.int i4]) [1, 2] rfl rfl (q0 := 1) rfl cv_X_75_R rfl rfl ⟨Nat.le_of_ble_eq_true rfl, Nat.le_of_ble_eq_true rfl⟩ hf0 rfl (Nat.le_of_ble_eq_true rfl) zd_X_put_34 rfl ?_
        refine G_icmp_le F zd_X_put_37 (tgt := 50) rfl (fun h0 => ?_) (fun h0 => ?_)
        · have h := iP h h0
          refine G_iconst (v := (0 : Int32)) F zd_X_put_50 (by decide) ?_
          refine G_istore F zd_X_put_51 (by decide) (L' := [(6, .int (0 : Int32)), (5, .ref qa), (0, .ref xa), (1, .int i1), (2, .long j2), (4, .int i4)]) rfl ?_
          obtain ⟨x8, x9, x10, hl53, h⟩ := bc3_s h
          refine G_lv [2, 3, 4, 5, 1, 0] rfl (zl_X_put_53 F sn sf pn pf dn df tf an mt co ra rr zra zrr zrp i1 j2 i4 xa qa qb sa sb pa pb da db ka ha ta wa va hb hc ea ua 1000 (0 : Int32) qn qf x8 x9 x10 hl53 ?_)
          obtain ⟨q1, q2, q3, q4, q5, q6⟩ := inj6 h
          subst q1
          subst q2
          subst q3
          subst q4
          subst q5
          subst q6
          exact E 79 _ zd_X_put_79
        · have h := iN h h0
          cases h
      · have h := iN h h0
        cases h
  have h := iN h g0
  by_cases g1 : i1 = (1 : Int32)
  · have h := iP h g1
    obtain ⟨hc2, h⟩ := bc0_s h
    refine G_callrV0 F (zk_X_rowOf_sa l D cB cI cJ xa qa qb sa sb pa pb da db ka ha ta wa va hb hc ea ua qn qf sn sf pn pf dn df tf an mt co ra rr zra zrr zrp i1 hc2) (rest := []) [0, 1, 2, 3, 4, 5, 6, 7, 8, 9, 10, 11, 12, 13, 14, 15, 16, 17] rfl rfl (q0 := 0) rfl cv_X_64_X rfl rfl ⟨Nat.le_of_ble_eq_true rfl, Nat.le_of_ble_eq_true rfl⟩ hf0 rfl (Nat.le_of_ble_eq_true rfl) zd_X_put_2 rfl ?_
    refine G_astore F zd_X_put_5 (by decide) (L' := [(5, .ref sa), (0, .ref xa), (1, .int i1), (2, .long j2), (4, .int i4)]) rfl ?_
    refine G_iload F zd_X_put_7 (j := 4) rfl ?_
    refine G_iconst (v := (1 : Int32)) F zd_X_put_9 (by decide) ?_
    refine G_icmp_lt F zd_X_put_10 (tgt := 20) rfl (fun h0 => ?_) (fun h0 => ?_)
    · have h := iP h h0
      cases h
    · have h := iN h h0
      refine G_iload F zd_X_put_13 (j := 4) rfl ?_
      refine G_bipush (v := (8 : Int32)) F zd_X_put_15 (by decide) ?_
      refine G_icmp_le F zd_X_put_17 (tgt := 30) rfl (fun h0 => ?_) (fun h0 => ?_)
      · have h := iP h h0
        refine G_iload F zd_X_put_30 (j := 4) rfl ?_
        refine G_aload F zd_X_put_32 (j := 0) rfl ?_
        obtain ⟨v11, hc34, h⟩ := bc1_s h
        refine G_calliV0 F (zk_R_room l D cB cI cJ sa sb sn (200) sf v11 hc34) (rest := [.int i4]) [3, 4] rfl rfl (q0 := 3) rfl cv_X_75_R rfl rfl ⟨Nat.le_of_ble_eq_true rfl, Nat.le_of_ble_eq_true rfl⟩ hf0 rfl (Nat.le_of_ble_eq_true rfl) zd_X_put_34 rfl ?_
        refine G_icmp_le F zd_X_put_37 (tgt := 50) rfl (fun h0 => ?_) (fun h0 => ?_)
        · have h := iP h h0
          refine G_iconst (v := (0 : Int32)) F zd_X_put_50 (by decide) ?_
          refine G_istore F zd_X_put_51 (by decide) (L' := [(6, .int (0 : Int32)), (5, .ref sa), (0, .ref xa), (1, .int i1), (2, .long j2), (4, .int i4)]) rfl ?_
          obtain ⟨x18, x19, x20, hl53, h⟩ := bc3_s h
          refine G_lv [2, 3, 4, 5, 1, 0] rfl (zl_X_put_53b F qn qf pn pf dn df tf an mt co ra rr zra zrr zrp i1 j2 i4 xa qa qb sa sb pa pb da db ka ha ta wa va hb hc ea ua 1000 (0 : Int32) sn sf x18 x19 x20 hl53 ?_)
          obtain ⟨q1, q2, q3, q4, q5, q6⟩ := inj6 h
          subst q1
          subst q2
          subst q3
          subst q4
          subst q5
          subst q6
          exact E 79 _ zd_X_put_79
        · have h := iN h h0
          cases h
      · have h := iN h h0
        cases h
  have h := iN h g1
  by_cases g2 : i1 = (2 : Int32)
  · have h := iP h g2
    obtain ⟨hc2, h⟩ := bc0_s h
    refine G_callrV0 F (zk_X_rowOf_pa l D cB cI cJ xa qa qb sa sb pa pb da db ka ha ta wa va hb hc ea ua qn qf sn sf pn pf dn df tf an mt co ra rr zra zrr zrp i1 hc2) (rest := []) [0, 1, 2, 3, 4, 5, 6, 7, 8, 9, 10, 11, 12, 13, 14, 15, 16, 17] rfl rfl (q0 := 0) rfl cv_X_64_X rfl rfl ⟨Nat.le_of_ble_eq_true rfl, Nat.le_of_ble_eq_true rfl⟩ hf0 rfl (Nat.le_of_ble_eq_true rfl) zd_X_put_2 rfl ?_
    refine G_astore F zd_X_put_5 (by decide) (L' := [(5, .ref pa), (0, .ref xa), (1, .int i1), (2, .long j2), (4, .int i4)]) rfl ?_
    refine G_iload F zd_X_put_7 (j := 4) rfl ?_
    refine G_iconst (v := (1 : Int32)) F zd_X_put_9 (by decide) ?_
    refine G_icmp_lt F zd_X_put_10 (tgt := 20) rfl (fun h0 => ?_) (fun h0 => ?_)
    · have h := iP h h0
      cases h
    · have h := iN h h0
      refine G_iload F zd_X_put_13 (j := 4) rfl ?_
      refine G_bipush (v := (8 : Int32)) F zd_X_put_15 (by decide) ?_
      refine G_icmp_le F zd_X_put_17 (tgt := 30) rfl (fun h0 => ?_) (fun h0 => ?_)
      · have h := iP h h0
        refine G_iload F zd_X_put_30 (j := 4) rfl ?_
        refine G_aload F zd_X_put_32 (j := 0) rfl ?_
        obtain ⟨v21, hc34, h⟩ := bc1_s h
        refine G_calliV0 F (zk_R_room l D cB cI cJ pa pb pn (64) pf v21 hc34) (rest := [.int i4]) [5, 6] rfl rfl (q0 := 5) rfl cv_X_75_R rfl rfl ⟨Nat.le_of_ble_eq_true rfl, Nat.le_of_ble_eq_true rfl⟩ hf0 rfl (Nat.le_of_ble_eq_true rfl) zd_X_put_34 rfl ?_
        refine G_icmp_le F zd_X_put_37 (tgt := 50) rfl (fun h0 => ?_) (fun h0 => ?_)
        · have h := iP h h0
          refine G_iconst (v := (0 : Int32)) F zd_X_put_50 (by decide) ?_
          refine G_istore F zd_X_put_51 (by decide) (L' := [(6, .int (0 : Int32)), (5, .ref pa), (0, .ref xa), (1, .int i1), (2, .long j2), (4, .int i4)]) rfl ?_
          obtain ⟨x28, x29, x30, hl53, h⟩ := bc3_s h
          refine G_lv [2, 3, 4, 5, 1, 0] rfl (zl_X_put_53c F qn qf sn sf dn df tf an mt co ra rr zra zrr zrp i1 j2 i4 xa qa qb sa sb pa pb da db ka ha ta wa va hb hc ea ua 1000 (0 : Int32) pn pf x28 x29 x30 hl53 ?_)
          obtain ⟨q1, q2, q3, q4, q5, q6⟩ := inj6 h
          subst q1
          subst q2
          subst q3
          subst q4
          subst q5
          subst q6
          exact E 79 _ zd_X_put_79
        · have h := iN h h0
          cases h
      · have h := iN h h0
        cases h
  have h := iN h g2
  cases h

def zf_X_empty (qn : Int32) (sn : Int32) (pn : Int32) (i1 : Int32) : Option (Int32 × Int32 × Int32 × Int32) := if i1 = 0 then bc0 (zf_X_rowOf_qa i1) fun _ => bc1 (zf_R_clear) fun v1 => some (qn, v1, sn, pn) else if i1 = (1 : Int32) then bc0 (zf_X_rowOf_sa i1) fun _ => bc1 (zf_R_clear) fun v2 => some (sn, qn, v2, pn) else if i1 = (2 : Int32) then bc0 (zf_X_rowOf_pa i1) fun _ => bc1 (zf_R_clear) fun v3 => some (pn, qn, sn, v3) else none
set_option maxHeartbeats 4000000 in
set_option maxRecDepth 100000 in
theorem zk_X_empty (l : Launch) (D : va_G) (cB cI cJ : ClassId) (xa : Nat) (qa : Nat) (qb : Nat) (sa : Nat) (sb : Nat) (pa : Nat) (pb : Nat) (da : Nat) (db : Nat) (ka : Nat) (ha : Nat) (ta : Nat) (wa : Nat) (va : Nat) (hb : Nat) (hc : Nat) (ea : Nat) (ua : Nat) (qn : Int32) (qf : Nat → Int32) (sn : Int32) (sf : Nat → Int32) (pn : Int32) (pf : Nat → Int32) (dn : Int32) (df : Nat → Int32) (tf : Nat → Int32) (an : Int32) (mt : Int32) (co : Int32) (ra : Int32) (rr : Int32) (zra : Int32) (zrr : Int32) (zrp : Int32) (i1 : Int32) (r : Int32) (qn' : Int32) (sn' : Int32) (pn' : Int32) (h : zf_X_empty qn sn pn i1 = some (r, qn', sn', pn')) : CoI l zy_X_empty zw_X_empty { frames := 1, cells := 0, slots := 0, locals := 21 } D cB cI cJ [.ref xa, .int i1] [(xa, .inr (7, [.ref qa, .ref sa, .ref pa, .ref da, .ref ka, .ref wa, .ref va, .ref ea, .ref ua])), (qa, .inr (4, [.ref qb, .int qn])), (qb, .inl (cB, 160, .inl qf)), (sa, .inr (4, [.ref sb, .int sn])), (sb, .inl (cB, 200, .inl sf)), (pa, .inr (4, [.ref pb, .int pn])), (pb, .inl (cB, 64, .inl pf)), (da, .inr (4, [.ref db, .int dn])), (db, .inl (cB, 160, .inl df)), (ha, .inr (2, [.ref pa, .ref qa])), (ka, .inr (3, [.ref pa, .ref qa, .ref ha, .ref ta, .int an, .int mt, .int co])), (ta, .inl (cI, 32, .inl tf)), (wa, .inr (6, [.ref qa, .ref sa])), (va, .inr (1, [.ref qa, .ref sa])), (hb, .inr (2, [.ref pa, .ref da])), (hc, .inr (2, [.ref pa, .ref da])), (ea, .inr (5, [.ref sa, .ref da, .ref hb, .int ra, .int rr])), (ua, .inr (0, [.ref sa, .ref da, .ref hc, .int zra, .int zrr, .int zrp]))] r [(xa, .inr (7, [.ref qa, .ref sa, .ref pa, .ref da, .ref ka, .ref wa, .ref va, .ref ea, .ref ua])), (qa, .inr (4, [.ref qb, .int qn'])), (qb, .inl (cB, 160, .inl qf)), (sa, .inr (4, [.ref sb, .int sn'])), (sb, .inl (cB, 200, .inl sf)), (pa, .inr (4, [.ref pb, .int pn'])), (pb, .inl (cB, 64, .inl pf)), (da, .inr (4, [.ref db, .int dn])), (db, .inl (cB, 160, .inl df)), (ha, .inr (2, [.ref pa, .ref qa])), (ka, .inr (3, [.ref pa, .ref qa, .ref ha, .ref ta, .int an, .int mt, .int co])), (ta, .inl (cI, 32, .inl tf)), (wa, .inr (6, [.ref qa, .ref sa])), (va, .inr (1, [.ref qa, .ref sa])), (hb, .inr (2, [.ref pa, .ref da])), (hc, .inr (2, [.ref pa, .ref da])), (ea, .inr (5, [.ref sa, .ref da, .ref hb, .int ra, .int rr])), (ua, .inr (0, [.ref sa, .ref da, .ref hc, .int zra, .int zrr, .int zrp]))] := by
  unfold zf_X_empty at h
  refine CoI.ofG (cc := zc_X_empty) (maxL := 4) (own := RX9) (by decide) rfl rfl rfl trivial (Nat.le_of_ble_eq_true rfl) (L0 := [(0, .ref xa), (1, .int i1)]) rfl (fun k F E => ?_)
  refine G_aload_n F zd_X_empty_0 rfl (j := 0) rfl ?_
  refine G_iload_n F zd_X_empty_1 rfl (j := 1) rfl ?_
  by_cases g0 : i1 = 0
  · have h := iP h g0
    obtain ⟨hc2, h⟩ := bc0_s h
    refine G_callrV0 F (zk_X_rowOf_qa l D cB cI cJ xa qa qb sa sb pa pb da db ka ha ta wa va hb hc ea ua qn qf sn sf pn pf dn df tf an mt co ra rr zra zrr zrp i1 hc2) (rest := []) [0, 1, 2, 3, 4, 5, 6, 7, 8, 9, 10, 11, 12, 13, 14, 15, 16, 17] rfl rfl (q0 := 0) rfl cv_X_64_X rfl rfl ⟨Nat.le_of_ble_eq_true rfl, Nat.le_of_ble_eq_true rfl⟩ hf0 rfl (Nat.le_of_ble_eq_true rfl) zd_X_empty_2 rfl ?_
    refine G_astore_n F zd_X_empty_5 rfl (by decide) (L' := [(2, .ref qa), (0, .ref xa), (1, .int i1)]) rfl ?_
    refine G_aload_n F zd_X_empty_6 rfl (j := 0) rfl ?_
    refine G_get F fa_X_87_R (q := 1) zd_X_empty_7 rfl rfl ?_
    refine G_istore_n F zd_X_empty_10 rfl (by decide) (L' := [(3, .int qn), (2, .ref qa), (0, .ref xa), (1, .int i1)]) rfl ?_
    refine G_aload_n F zd_X_empty_11 rfl (j := 1) rfl ?_
    obtain ⟨v1, hc12, h⟩ := bc1_s h
    refine G_callvV F (zk_R_clear l D cB cI cJ qa qb qn (160) qf v1 hc12) (rest := []) [1, 2] rfl rfl rfl (ws' := [(xa, .inr (7, [.ref qa, .ref sa, .ref pa, .ref da, .ref ka, .ref wa, .ref va, .ref ea, .ref ua])), (qa, .inr (4, [.ref qb, .int v1])), (qb, .inl (cB, 160, .inl qf)), (sa, .inr (4, [.ref sb, .int sn])), (sb, .inl (cB, 200, .inl sf)), (pa, .inr (4, [.ref pb, .int pn])), (pb, .inl (cB, 64, .inl pf)), (da, .inr (4, [.ref db, .int dn])), (db, .inl (cB, 160, .inl df)), (ha, .inr (2, [.ref pa, .ref qa])), (ka, .inr (3, [.ref pa, .ref qa, .ref ha, .ref ta, .int an, .int mt, .int co])), (ta, .inl (cI, 32, .inl tf)), (wa, .inr (6, [.ref qa, .ref sa])), (va, .inr (1, [.ref qa, .ref sa])), (hb, .inr (2, [.ref pa, .ref da])), (hc, .inr (2, [.ref pa, .ref da])), (ea, .inr (5, [.ref sa, .ref da, .ref hb, .int ra, .int rr])), (ua, .inr (0, [.ref sa, .ref da, .ref hc, .int zra, .int zrr, .int zrp]))]) rfl (q0 := 1) rfl cv_X_91_R rfl rfl ⟨Nat.le_of_ble_eq_true rfl, Nat.le_of_ble_eq_true rfl⟩ hf0 rfl (Nat.le_of_ble_eq_true rfl) zd_X_empty_12 rfl ?_
    refine G_iload_n F zd_X_empty_15 rfl (j := 0) rfl ?_
    obtain ⟨q1, q2, q3, q4⟩ := inj4 h
    subst q1
    subst q2
    subst q3
    subst q4
    exact E 16 _ zd_X_empty_16
  have h := iN h g0
  by_cases g1 : i1 = (1 : Int32)
  · have h := iP h g1
    obtain ⟨hc2, h⟩ := bc0_s h
    refine G_callrV0 F (zk_X_rowOf_sa l D cB cI cJ xa qa qb sa sb pa pb da db ka ha ta wa va hb hc ea ua qn qf sn sf pn pf dn df tf an mt co ra rr zra zrr zrp i1 hc2) (rest := []) [0, 1, 2, 3, 4, 5, 6, 7, 8, 9, 10, 11, 12, 13, 14, 15, 16, 17] rfl rfl (q0 := 0) rfl cv_X_64_X rfl rfl ⟨Nat.le_of_ble_eq_true rfl, Nat.le_of_ble_eq_true rfl⟩ hf0 rfl (Nat.le_of_ble_eq_true rfl) zd_X_empty_2 rfl ?_
    refine G_astore_n F zd_X_empty_5 rfl (by decide) (L' := [(2, .ref sa), (0, .ref xa), (1, .int i1)]) rfl ?_
    refine G_aload_n F zd_X_empty_6 rfl (j := 0) rfl ?_
    refine G_get F fa_X_87_R (q := 3) zd_X_empty_7 rfl rfl ?_
    refine G_istore_n F zd_X_empty_10 rfl (by decide) (L' := [(3, .int sn), (2, .ref sa), (0, .ref xa), (1, .int i1)]) rfl ?_
    refine G_aload_n F zd_X_empty_11 rfl (j := 1) rfl ?_
    obtain ⟨v2, hc12, h⟩ := bc1_s h
    refine G_callvV F (zk_R_clear l D cB cI cJ sa sb sn (200) sf v2 hc12) (rest := []) [3, 4] rfl rfl rfl (ws' := [(xa, .inr (7, [.ref qa, .ref sa, .ref pa, .ref da, .ref ka, .ref wa, .ref va, .ref ea, .ref ua])), (qa, .inr (4, [.ref qb, .int qn])), (qb, .inl (cB, 160, .inl qf)), (sa, .inr (4, [.ref sb, .int v2])), (sb, .inl (cB, 200, .inl sf)), (pa, .inr (4, [.ref pb, .int pn])), (pb, .inl (cB, 64, .inl pf)), (da, .inr (4, [.ref db, .int dn])), (db, .inl (cB, 160, .inl df)), (ha, .inr (2, [.ref pa, .ref qa])), (ka, .inr (3, [.ref pa, .ref qa, .ref ha, .ref ta, .int an, .int mt, .int co])), (ta, .inl (cI, 32, .inl tf)), (wa, .inr (6, [.ref qa, .ref sa])), (va, .inr (1, [.ref qa, .ref sa])), (hb, .inr (2, [.ref pa, .ref da])), (hc, .inr (2, [.ref pa, .ref da])), (ea, .inr (5, [.ref sa, .ref da, .ref hb, .int ra, .int rr])), (ua, .inr (0, [.ref sa, .ref da, .ref hc, .int zra, .int zrr, .int zrp]))]) rfl (q0 := 3) rfl cv_X_91_R rfl rfl ⟨Nat.le_of_ble_eq_true rfl, Nat.le_of_ble_eq_true rfl⟩ hf0 rfl (Nat.le_of_ble_eq_true rfl) zd_X_empty_12 rfl ?_
    refine G_iload_n F zd_X_empty_15 rfl (j := 0) rfl ?_
    obtain ⟨q1, q2, q3, q4⟩ := inj4 h
    subst q1
    subst q2
    subst q3
    subst q4
    exact E 16 _ zd_X_empty_16
  have h := iN h g1
  by_cases g2 : i1 = (2 : Int32)
  · have h := iP h g2
    obtain ⟨hc2, h⟩ := bc0_s h
    refine G_callrV0 F (zk_X_rowOf_pa l D cB cI cJ xa qa qb sa sb pa pb da db ka ha ta wa va hb hc ea ua qn qf sn sf pn pf dn df tf an mt co ra rr zra zrr zrp i1 hc2) (rest := []) [0, 1, 2, 3, 4, 5, 6, 7, 8, 9, 10, 11, 12, 13, 14, 15, 16, 17] rfl rfl (q0 := 0) rfl cv_X_64_X rfl rfl ⟨Nat.le_of_ble_eq_true rfl, Nat.le_of_ble_eq_true rfl⟩ hf0 rfl (Nat.le_of_ble_eq_true rfl) zd_X_empty_2 rfl ?_
    refine G_astore_n F zd_X_empty_5 rfl (by decide) (L' := [(2, .ref pa), (0, .ref xa), (1, .int i1)]) rfl ?_
    refine G_aload_n F zd_X_empty_6 rfl (j := 0) rfl ?_
    refine G_get F fa_X_87_R (q := 5) zd_X_empty_7 rfl rfl ?_
    refine G_istore_n F zd_X_empty_10 rfl (by decide) (L' := [(3, .int pn), (2, .ref pa), (0, .ref xa), (1, .int i1)]) rfl ?_
    refine G_aload_n F zd_X_empty_11 rfl (j := 1) rfl ?_
    obtain ⟨v3, hc12, h⟩ := bc1_s h
    refine G_callvV F (zk_R_clear l D cB cI cJ pa pb pn (64) pf v3 hc12) (rest := []) [5, 6] rfl rfl rfl (ws' := [(xa, .inr (7, [.ref qa, .ref sa, .ref pa, .ref da, .ref ka, .ref wa, .ref va, .ref ea, .ref ua])), (qa, .inr (4, [.ref qb, .int qn])), (qb, .inl (cB, 160, .inl qf)), (sa, .inr (4, [.ref sb, .int sn])), (sb, .inl (cB, 200, .inl sf)), (pa, .inr (4, [.ref pb, .int v3])), (pb, .inl (cB, 64, .inl pf)), (da, .inr (4, [.ref db, .int dn])), (db, .inl (cB, 160, .inl df)), (ha, .inr (2, [.ref pa, .ref qa])), (ka, .inr (3, [.ref pa, .ref qa, .ref ha, .ref ta, .int an, .int mt, .int co])), (ta, .inl (cI, 32, .inl tf)), (wa, .inr (6, [.ref qa, .ref sa])), (va, .inr (1, [.ref qa, .ref sa])), (hb, .inr (2, [.ref pa, .ref da])), (hc, .inr (2, [.ref pa, .ref da])), (ea, .inr (5, [.ref sa, .ref da, .ref hb, .int ra, .int rr])), (ua, .inr (0, [.ref sa, .ref da, .ref hc, .int zra, .int zrr, .int zrp]))]) rfl (q0 := 5) rfl cv_X_91_R rfl rfl ⟨Nat.le_of_ble_eq_true rfl, Nat.le_of_ble_eq_true rfl⟩ hf0 rfl (Nat.le_of_ble_eq_true rfl) zd_X_empty_12 rfl ?_
    refine G_iload_n F zd_X_empty_15 rfl (j := 0) rfl ?_
    obtain ⟨q1, q2, q3, q4⟩ := inj4 h
    subst q1
    subst q2
    subst q3
    subst q4
    exact E 16 _ zd_X_empty_16
  have h := iN h g2
  cases h

def zf_X_pack (qn : Int32) (qf : Nat → Int32) (sf : Nat → Int32) (pn : Int32) (pf : Nat → Int32) (tf : Nat → Int32) (i1 : Int32) : Option (Int32 × Int32 × (Nat → Int32) × Int32 × Int32 × Int32 × (Nat → Int32)) := bc0 (zf_X_requireFormat i1) fun _ => if i1 = 0 then bc6 (zf_P_run_S pn (64) pf qn (160) qf tf (200) sf) fun v7 v8 v9 v10 v11 v12 => some (v11, v11, v12, v7, v8, v9, v10) else bc6 (zf_P_run_E pn (64) pf qn (160) qf tf (200) sf) fun v1 v2 v3 v4 v5 v6 => some (v5, v5, v6, v1, v2, v3, v4)
set_option maxHeartbeats 4000000 in
set_option maxRecDepth 100000 in
theorem zk_X_pack (l : Launch) (D : va_G) (cB cI cJ : ClassId) (xa : Nat) (qa : Nat) (qb : Nat) (sa : Nat) (sb : Nat) (pa : Nat) (pb : Nat) (da : Nat) (db : Nat) (ka : Nat) (ha : Nat) (ta : Nat) (wa : Nat) (va : Nat) (hb : Nat) (hc : Nat) (ea : Nat) (ua : Nat) (qn : Int32) (qf : Nat → Int32) (sn : Int32) (sf : Nat → Int32) (pn : Int32) (pf : Nat → Int32) (dn : Int32) (df : Nat → Int32) (tf : Nat → Int32) (an : Int32) (mt : Int32) (co : Int32) (ra : Int32) (rr : Int32) (zra : Int32) (zrr : Int32) (zrp : Int32) (i1 : Int32) (r : Int32) (sn' : Int32) (sf' : Nat → Int32) (an' : Int32) (mt' : Int32) (co' : Int32) (tf' : Nat → Int32) (h : zf_X_pack qn qf sf pn pf tf i1 = some (r, sn', sf', an', mt', co', tf')) : CoI l zy_X_pack zw_X_pack { frames := 6, cells := 0, slots := 0, locals := 140 } D cB cI cJ [.ref xa, .int i1] [(xa, .inr (7, [.ref qa, .ref sa, .ref pa, .ref da, .ref ka, .ref wa, .ref va, .ref ea, .ref ua])), (qa, .inr (4, [.ref qb, .int qn])), (qb, .inl (cB, 160, .inl qf)), (sa, .inr (4, [.ref sb, .int sn])), (sb, .inl (cB, 200, .inl sf)), (pa, .inr (4, [.ref pb, .int pn])), (pb, .inl (cB, 64, .inl pf)), (da, .inr (4, [.ref db, .int dn])), (db, .inl (cB, 160, .inl df)), (ha, .inr (2, [.ref pa, .ref qa])), (ka, .inr (3, [.ref pa, .ref qa, .ref ha, .ref ta, .int an, .int mt, .int co])), (ta, .inl (cI, 32, .inl tf)), (wa, .inr (6, [.ref qa, .ref sa])), (va, .inr (1, [.ref qa, .ref sa])), (hb, .inr (2, [.ref pa, .ref da])), (hc, .inr (2, [.ref pa, .ref da])), (ea, .inr (5, [.ref sa, .ref da, .ref hb, .int ra, .int rr])), (ua, .inr (0, [.ref sa, .ref da, .ref hc, .int zra, .int zrr, .int zrp]))] r [(xa, .inr (7, [.ref qa, .ref sa, .ref pa, .ref da, .ref ka, .ref wa, .ref va, .ref ea, .ref ua])), (qa, .inr (4, [.ref qb, .int qn])), (qb, .inl (cB, 160, .inl qf)), (sa, .inr (4, [.ref sb, .int sn'])), (sb, .inl (cB, 200, .inl sf')), (pa, .inr (4, [.ref pb, .int pn])), (pb, .inl (cB, 64, .inl pf)), (da, .inr (4, [.ref db, .int dn])), (db, .inl (cB, 160, .inl df)), (ha, .inr (2, [.ref pa, .ref qa])), (ka, .inr (3, [.ref pa, .ref qa, .ref ha, .ref ta, .int an', .int mt', .int co'])), (ta, .inl (cI, 32, .inl tf')), (wa, .inr (6, [.ref qa, .ref sa])), (va, .inr (1, [.ref qa, .ref sa])), (hb, .inr (2, [.ref pa, .ref da])), (hc, .inr (2, [.ref pa, .ref da])), (ea, .inr (5, [.ref sa, .ref da, .ref hb, .int ra, .int rr])), (ua, .inr (0, [.ref sa, .ref da, .ref hc, .int zra, .int zrr, .int zrp]))] := by
  unfold zf_X_pack at h
  refine CoI.ofG (cc := zc_X_pack) (maxL := 2) (own := RX9) (by decide) rfl rfl rfl trivial (Nat.le_of_ble_eq_true rfl) (L0 := [(0, .ref xa), (1, .int i1)]) rfl (fun k F E => ?_)
  refine G_iload_n F zd_X_pack_0 rfl (j := 1) rfl ?_
  obtain ⟨hc1, h⟩ := bc0_s h
  refine G_callvS0 F (zk_X_requireFormat l D cB cI cJ i1 hc1) (rest := []) [] rfl rfl cv_X_94_X rfl rfl ⟨Nat.le_of_ble_eq_true rfl, Nat.le_of_ble_eq_true rfl⟩ hf0 rfl (Nat.le_of_ble_eq_true rfl) zd_X_pack_1 rfl ?_
  refine G_aload_n F zd_X_pack_4 rfl (j := 0) rfl ?_
  refine G_get F fa_X_32_X (q := 0) zd_X_pack_5 rfl rfl ?_
  refine G_iload_n F zd_X_pack_8 rfl (j := 1) rfl ?_
  refine G_if_ne F zd_X_pack_9 (tgt := 19) rfl (fun h0 => ?_) (fun h0 => ?_)
  · have h := iN h h0
    refine G_aload_n F zd_X_pack_19 rfl (j := 0) rfl ?_
    refine G_get F fa_X_46_X (q := 0) zd_X_pack_20 rfl rfl ?_
    obtain ⟨v1, v2, v3, v4, v5, v6, hc23, h⟩ := bc6_s h
    refine G_callvV F (zk_P_run_E l D cB cI cJ pa pb qa qb ka ha ta sa sb va pn (64) pf qn (160) qf tf an mt co sn (200) sf v1 v2 v3 v4 v5 v6 hc23) (rest := []) [5, 6, 1, 2, 9, 10, 11, 3, 4, 13] rfl rfl rfl (ws' := [(xa, .inr (7, [.ref qa, .ref sa, .ref pa, .ref da, .ref ka, .ref wa, .ref va, .ref ea, .ref ua])), (qa, .inr (4, [.ref qb, .int qn])), (qb, .inl (cB, 160, .inl qf)), (sa, .inr (4, [.ref sb, .int v5])), (sb, .inl (cB, 200, .inl v6)), (pa, .inr (4, [.ref pb, .int pn])), (pb, .inl (cB, 64, .inl pf)), (da, .inr (4, [.ref db, .int dn])), (db, .inl (cB, 160, .inl df)), (ha, .inr (2, [.ref pa, .ref qa])), (ka, .inr (3, [.ref pa, .ref qa, .ref ha, .ref ta, .int v1, .int v2, .int v3])), (ta, .inl (cI, 32, .inl v4)), (wa, .inr (6, [.ref qa, .ref sa])), (va, .inr (1, [.ref qa, .ref sa])), (hb, .inr (2, [.ref pa, .ref da])), (hc, .inr (2, [.ref pa, .ref da])), (ea, .inr (5, [.ref sa, .ref da, .ref hb, .int ra, .int rr])), (ua, .inr (0, [.ref sa, .ref da, .ref hc, .int zra, .int zrr, .int zrp]))]) rfl (q0 := 10) rfl cv_X_97_P rfl rfl ⟨Nat.le_of_ble_eq_true rfl, Nat.le_of_ble_eq_true rfl⟩ hf0 rfl (Nat.le_of_ble_eq_true rfl) zd_X_pack_23 rfl ?_
    refine G_aload_n F zd_X_pack_26 rfl (j := 0) rfl ?_
    refine G_get F fa_X_18_X (q := 0) zd_X_pack_27 rfl rfl ?_
    refine G_get F fa_X_87_R (q := 3) zd_X_pack_30 rfl rfl ?_
    obtain ⟨q1, q2, q3, q4, q5, q6, q7⟩ := inj7 h
    subst q1
    subst q2
    subst q3
    subst q4
    subst q5
    subst q6
    subst q7
    exact E 33 _ zd_X_pack_33
  · have h := iP h h0
    refine G_aload_n F zd_X_pack_12 rfl (j := 0) rfl ?_
    refine G_get F fa_X_39_X (q := 0) zd_X_pack_13 rfl rfl ?_
    refine G_goto F zd_X_pack_16 (tgt := 23) rfl ?_
    obtain ⟨v7, v8, v9, v10, v11, v12, hc23, h⟩ := bc6_s h
    refine G_callvV F (zk_P_run_S l D cB cI cJ pa pb qa qb ka ha ta sa sb wa pn (64) pf qn (160) qf tf an mt co sn (200) sf v7 v8 v9 v10 v11 v12 hc23) (rest := []) [5, 6, 1, 2, 9, 10, 11, 3, 4, 12] rfl rfl rfl (ws' := [(xa, .inr (7, [.ref qa, .ref sa, .ref pa, .ref da, .ref ka, .ref wa, .ref va, .ref ea, .ref ua])), (qa, .inr (4, [.ref qb, .int qn])), (qb, .inl (cB, 160, .inl qf)), (sa, .inr (4, [.ref sb, .int v11])), (sb, .inl (cB, 200, .inl v12)), (pa, .inr (4, [.ref pb, .int pn])), (pb, .inl (cB, 64, .inl pf)), (da, .inr (4, [.ref db, .int dn])), (db, .inl (cB, 160, .inl df)), (ha, .inr (2, [.ref pa, .ref qa])), (ka, .inr (3, [.ref pa, .ref qa, .ref ha, .ref ta, .int v7, .int v8, .int v9])), (ta, .inl (cI, 32, .inl v10)), (wa, .inr (6, [.ref qa, .ref sa])), (va, .inr (1, [.ref qa, .ref sa])), (hb, .inr (2, [.ref pa, .ref da])), (hc, .inr (2, [.ref pa, .ref da])), (ea, .inr (5, [.ref sa, .ref da, .ref hb, .int ra, .int rr])), (ua, .inr (0, [.ref sa, .ref da, .ref hc, .int zra, .int zrr, .int zrp]))]) rfl (q0 := 10) rfl cv_X_97_P rfl rfl ⟨Nat.le_of_ble_eq_true rfl, Nat.le_of_ble_eq_true rfl⟩ hf0 rfl (Nat.le_of_ble_eq_true rfl) zd_X_pack_23 rfl ?_
    refine G_aload_n F zd_X_pack_26 rfl (j := 0) rfl ?_
    refine G_get F fa_X_18_X (q := 0) zd_X_pack_27 rfl rfl ?_
    refine G_get F fa_X_87_R (q := 3) zd_X_pack_30 rfl rfl ?_
    obtain ⟨q1, q2, q3, q4, q5, q6, q7⟩ := inj7 h
    subst q1
    subst q2
    subst q3
    subst q4
    subst q5
    subst q6
    subst q7
    exact E 33 _ zd_X_pack_33

def zf_X_unpack (qn : Int32) (qf : Nat → Int32) (sn : Int32) (sf : Nat → Int32) (pn : Int32) (pf : Nat → Int32) (df : Nat → Int32) (ra : Int32) (rr : Int32) (zra : Int32) (zrr : Int32) (zrp : Int32) (i1 : Int32) : Option (Int32 × Int32 × (Nat → Int32) × Int32 × (Nat → Int32) × Int32 × Int32 × Int32 × Int32 × Int32) := bc0 (zf_X_requireFormat i1) fun _ => if i1 = 0 then bc3 (zf_D_rewind) fun v12 v13 v14 => bc4 (zf_SR_readAll sn (200) sf v12 (160) df pn (64) pf v13 v14) fun v15 v16 v17 v18 => bc1 (zf_D_refused v18) fun v19 => if v19 = 0 then bc2 (zf_R_become (160) qf v15 (160) v16) fun v20 v21 => some (v20, v20, v21, v15, v16, v17, v18, zra, zrr, zrp) else some (((-1 : Int32) - v18), qn, qf, v15, v16, v17, v18, zra, zrr, zrp) else bc3 (zf_D_rewind) fun v1 v2 v3 => bc5 (zf_ER_readAll sn (200) sf v1 (160) df pn (64) pf v2 v3) fun v4 v5 v6 v7 v8 => bc1 (zf_D_refused v7) fun v9 => if v9 = 0 then bc2 (zf_R_become (160) qf v4 (160) v5) fun v10 v11 => some (v10, v10, v11, v4, v5, ra, rr, v6, v7, v8) else some (((-1 : Int32) - v7), qn, qf, v4, v5, ra, rr, v6, v7, v8)
set_option maxHeartbeats 4000000 in
set_option maxRecDepth 100000 in
theorem zk_X_unpack (l : Launch) (D : va_G) (cB cI cJ : ClassId) (xa : Nat) (qa : Nat) (qb : Nat) (sa : Nat) (sb : Nat) (pa : Nat) (pb : Nat) (da : Nat) (db : Nat) (ka : Nat) (ha : Nat) (ta : Nat) (wa : Nat) (va : Nat) (hb : Nat) (hc : Nat) (ea : Nat) (ua : Nat) (qn : Int32) (qf : Nat → Int32) (sn : Int32) (sf : Nat → Int32) (pn : Int32) (pf : Nat → Int32) (dn : Int32) (df : Nat → Int32) (tf : Nat → Int32) (an : Int32) (mt : Int32) (co : Int32) (ra : Int32) (rr : Int32) (zra : Int32) (zrr : Int32) (zrp : Int32) (i1 : Int32) (r : Int32) (qn' : Int32) (qf' : Nat → Int32) (dn' : Int32) (df' : Nat → Int32) (ra' : Int32) (rr' : Int32) (zra' : Int32) (zrr' : Int32) (zrp' : Int32) (h : zf_X_unpack qn qf sn sf pn pf df ra rr zra zrr zrp i1 = some (r, qn', qf', dn', df', ra', rr', zra', zrr', zrp')) : CoI l zy_X_unpack zw_X_unpack { frames := 6, cells := 0, slots := 0, locals := 132 } D cB cI cJ [.ref xa, .int i1] [(xa, .inr (7, [.ref qa, .ref sa, .ref pa, .ref da, .ref ka, .ref wa, .ref va, .ref ea, .ref ua])), (qa, .inr (4, [.ref qb, .int qn])), (qb, .inl (cB, 160, .inl qf)), (sa, .inr (4, [.ref sb, .int sn])), (sb, .inl (cB, 200, .inl sf)), (pa, .inr (4, [.ref pb, .int pn])), (pb, .inl (cB, 64, .inl pf)), (da, .inr (4, [.ref db, .int dn])), (db, .inl (cB, 160, .inl df)), (ha, .inr (2, [.ref pa, .ref qa])), (ka, .inr (3, [.ref pa, .ref qa, .ref ha, .ref ta, .int an, .int mt, .int co])), (ta, .inl (cI, 32, .inl tf)), (wa, .inr (6, [.ref qa, .ref sa])), (va, .inr (1, [.ref qa, .ref sa])), (hb, .inr (2, [.ref pa, .ref da])), (hc, .inr (2, [.ref pa, .ref da])), (ea, .inr (5, [.ref sa, .ref da, .ref hb, .int ra, .int rr])), (ua, .inr (0, [.ref sa, .ref da, .ref hc, .int zra, .int zrr, .int zrp]))] r [(xa, .inr (7, [.ref qa, .ref sa, .ref pa, .ref da, .ref ka, .ref wa, .ref va, .ref ea, .ref ua])), (qa, .inr (4, [.ref qb, .int qn'])), (qb, .inl (cB, 160, .inl qf')), (sa, .inr (4, [.ref sb, .int sn])), (sb, .inl (cB, 200, .inl sf)), (pa, .inr (4, [.ref pb, .int pn])), (pb, .inl (cB, 64, .inl pf)), (da, .inr (4, [.ref db, .int dn'])), (db, .inl (cB, 160, .inl df')), (ha, .inr (2, [.ref pa, .ref qa])), (ka, .inr (3, [.ref pa, .ref qa, .ref ha, .ref ta, .int an, .int mt, .int co])), (ta, .inl (cI, 32, .inl tf)), (wa, .inr (6, [.ref qa, .ref sa])), (va, .inr (1, [.ref qa, .ref sa])), (hb, .inr (2, [.ref pa, .ref da])), (hc, .inr (2, [.ref pa, .ref da])), (ea, .inr (5, [.ref sa, .ref da, .ref hb, .int ra', .int rr'])), (ua, .inr (0, [.ref sa, .ref da, .ref hc, .int zra', .int zrr', .int zrp']))] := by
  unfold zf_X_unpack at h
  refine CoI.ofG (cc := zc_X_unpack) (maxL := 3) (own := RX9) (by decide) rfl rfl rfl trivial (Nat.le_of_ble_eq_true rfl) (L0 := [(0, .ref xa), (1, .int i1)]) rfl (fun k F E => ?_)
  refine G_iload_n F zd_X_unpack_0 rfl (j := 1) rfl ?_
  obtain ⟨hc1, h⟩ := bc0_s h
  refine G_callvS0 F (zk_X_requireFormat l D cB cI cJ i1 hc1) (rest := []) [] rfl rfl cv_X_94_X rfl rfl ⟨Nat.le_of_ble_eq_true rfl, Nat.le_of_ble_eq_true rfl⟩ hf0 rfl (Nat.le_of_ble_eq_true rfl) zd_X_unpack_1 rfl ?_
  refine G_iload_n F zd_X_unpack_4 rfl (j := 1) rfl ?_
  refine G_if_ne F zd_X_unpack_5 (tgt := 15) rfl (fun h0 => ?_) (fun h0 => ?_)
  · have h := iN h h0
    refine G_aload_n F zd_X_unpack_15 rfl (j := 0) rfl ?_
    refine G_get F fa_X_61_X (q := 0) zd_X_unpack_16 rfl rfl ?_
    refine G_astore_n F zd_X_unpack_19 rfl (by decide) (L' := [(2, .ref ua), (0, .ref xa), (1, .int i1)]) rfl ?_
    refine G_aload_n F zd_X_unpack_20 rfl (j := 0) rfl ?_
    obtain ⟨v1, v2, v3, hc21, h⟩ := bc3_s h
    refine G_callvU F (zk_D_rewind_E l D cB cI cJ sa sb da db pa pb hc ua sn (200) sf dn (160) df pn (64) pf zra zrr zrp v1 v2 v3 hc21) (rest := []) [3, 4, 7, 8, 5, 6, 15, 17] rfl rfl rfl (ws' := [(xa, .inr (7, [.ref qa, .ref sa, .ref pa, .ref da, .ref ka, .ref wa, .ref va, .ref ea, .ref ua])), (qa, .inr (4, [.ref qb, .int qn])), (qb, .inl (cB, 160, .inl qf)), (sa, .inr (4, [.ref sb, .int sn])), (sb, .inl (cB, 200, .inl sf)), (pa, .inr (4, [.ref pb, .int pn])), (pb, .inl (cB, 64, .inl pf)), (da, .inr (4, [.ref db, .int v1])), (db, .inl (cB, 160, .inl df)), (ha, .inr (2, [.ref pa, .ref qa])), (ka, .inr (3, [.ref pa, .ref qa, .ref ha, .ref ta, .int an, .int mt, .int co])), (ta, .inl (cI, 32, .inl tf)), (wa, .inr (6, [.ref qa, .ref sa])), (va, .inr (1, [.ref qa, .ref sa])), (hb, .inr (2, [.ref pa, .ref da])), (hc, .inr (2, [.ref pa, .ref da])), (ea, .inr (5, [.ref sa, .ref da, .ref hb, .int ra, .int rr])), (ua, .inr (0, [.ref sa, .ref da, .ref hc, .int v2, .int v3, .int zrp]))]) rfl (q0 := 17) rfl (x := ⟨"PressSuite$Reader", "rewind", "()V"⟩) cv_X_101_ER rfl rfl ⟨Nat.le_of_ble_eq_true rfl, Nat.le_of_ble_eq_true rfl⟩ hf0 rfl (Nat.le_of_ble_eq_true rfl) zd_X_unpack_21 rfl ?_
    refine G_aload_n F zd_X_unpack_24 rfl (j := 0) rfl ?_
    obtain ⟨v4, v5, v6, v7, v8, hc25, h⟩ := bc5_s h
    refine G_callvA F (zk_ER_readAll l D cB cI cJ sa sb da db pa pb hc ua sn (200) sf v1 (160) df pn (64) pf v2 v3 zrp v4 v5 v6 v7 v8 hc25) (rest := []) [3, 4, 7, 8, 5, 6, 15, 17] rfl rfl rfl (ws' := [(xa, .inr (7, [.ref qa, .ref sa, .ref pa, .ref da, .ref ka, .ref wa, .ref va, .ref ea, .ref ua])), (qa, .inr (4, [.ref qb, .int qn])), (qb, .inl (cB, 160, .inl qf)), (sa, .inr (4, [.ref sb, .int sn])), (sb, .inl (cB, 200, .inl sf)), (pa, .inr (4, [.ref pb, .int pn])), (pb, .inl (cB, 64, .inl pf)), (da, .inr (4, [.ref db, .int v4])), (db, .inl (cB, 160, .inl v5)), (ha, .inr (2, [.ref pa, .ref qa])), (ka, .inr (3, [.ref pa, .ref qa, .ref ha, .ref ta, .int an, .int mt, .int co])), (ta, .inl (cI, 32, .inl tf)), (wa, .inr (6, [.ref qa, .ref sa])), (va, .inr (1, [.ref qa, .ref sa])), (hb, .inr (2, [.ref pa, .ref da])), (hc, .inr (2, [.ref pa, .ref da])), (ea, .inr (5, [.ref sa, .ref da, .ref hb, .int ra, .int rr])), (ua, .inr (0, [.ref sa, .ref da, .ref hc, .int v6, .int v7, .int v8]))]) rfl (q0 := 17) rfl (x := ⟨"PressSuite$Reader", "readAll", "()V"⟩) cv_X_106_ER rfl rfl ⟨Nat.le_of_ble_eq_true rfl, Nat.le_of_ble_eq_true rfl⟩ hf0 rfl (Nat.le_of_ble_eq_true rfl) zd_X_unpack_25 rfl ?_
    refine G_aload_n F zd_X_unpack_28 rfl (j := 0) rfl ?_
    obtain ⟨v9, hc29, h⟩ := bc1_s h
    refine G_calliU0 F (zk_D_refused_E l D cB cI cJ sa sb da db pa pb hc ua sn (200) sf v4 (160) v5 pn (64) pf v6 v7 v8 v9 hc29) (rest := []) [3, 4, 7, 8, 5, 6, 15, 17] rfl rfl (q0 := 17) rfl (x := ⟨"PressSuite$Reader", "refused", "()Z"⟩) cv_X_109_ER rfl rfl ⟨Nat.le_of_ble_eq_true rfl, Nat.le_of_ble_eq_true rfl⟩ hf0 rfl (Nat.le_of_ble_eq_true rfl) zd_X_unpack_29 rfl ?_
    refine G_if_eq F zd_X_unpack_32 (tgt := 42) rfl (fun h0 => ?_) (fun h0 => ?_)
    · have h := iP h h0
      refine G_aload_n F zd_X_unpack_42 rfl (j := 1) rfl ?_
      refine G_get F fa_X_14_X (q := 0) zd_X_unpack_43 rfl rfl ?_
      refine G_aload_n F zd_X_unpack_46 rfl (j := 1) rfl ?_
      refine G_get F fa_X_24_X (q := 0) zd_X_unpack_47 rfl rfl ?_
      obtain ⟨v10, v11, hc50, h⟩ := bc2_s h
      refine G_callvV F (zk_R_become l D cB cI cJ qa qb da db qn (160) qf v4 (160) v5 v10 v11 hc50) (rest := []) [1, 2, 7, 8] rfl rfl rfl (ws' := [(xa, .inr (7, [.ref qa, .ref sa, .ref pa, .ref da, .ref ka, .ref wa, .ref va, .ref ea, .ref ua])), (qa, .inr (4, [.ref qb, .int v10])), (qb, .inl (cB, 160, .inl v11)), (sa, .inr (4, [.ref sb, .int sn])), (sb, .inl (cB, 200, .inl sf)), (pa, .inr (4, [.ref pb, .int pn])), (pb, .inl (cB, 64, .inl pf)), (da, .inr (4, [.ref db, .int v4])), (db, .inl (cB, 160, .inl v5)), (ha, .inr (2, [.ref pa, .ref qa])), (ka, .inr (3, [.ref pa, .ref qa, .ref ha, .ref ta, .int an, .int mt, .int co])), (ta, .inl (cI, 32, .inl tf)), (wa, .inr (6, [.ref qa, .ref sa])), (va, .inr (1, [.ref qa, .ref sa])), (hb, .inr (2, [.ref pa, .ref da])), (hc, .inr (2, [.ref pa, .ref da])), (ea, .inr (5, [.ref sa, .ref da, .ref hb, .int ra, .int rr])), (ua, .inr (0, [.ref sa, .ref da, .ref hc, .int v6, .int v7, .int v8]))]) rfl (q0 := 1) rfl cv_X_116_R rfl rfl ⟨Nat.le_of_ble_eq_true rfl, Nat.le_of_ble_eq_true rfl⟩ hf0 rfl (Nat.le_of_ble_eq_true rfl) zd_X_unpack_50 rfl ?_
      refine G_aload_n F zd_X_unpack_53 rfl (j := 1) rfl ?_
      refine G_get F fa_X_14_X (q := 0) zd_X_unpack_54 rfl rfl ?_
      refine G_get F fa_X_87_R (q := 1) zd_X_unpack_57 rfl rfl ?_
      obtain ⟨q1, q2, q3, q4, q5, q6, q7, q8, q9, q10⟩ := inj10 h
      subst q1
      subst q2
      subst q3
      subst q4
      subst q5
      subst q6
      subst q7
      subst q8
      subst q9
      subst q10
      exact E 60 _ zd_X_unpack_60
    · have h := iN h h0
      refine G_iconst (v := (-1 : Int32)) F zd_X_unpack_35 (by decide) ?_
      refine G_aload_n F zd_X_unpack_36 rfl (j := 0) rfl ?_
      refine G_get F fa_X_113_ER (q := 17) zd_X_unpack_37 rfl rfl ?_
      refine G_isub F zd_X_unpack_40 ?_
      obtain ⟨q1, q2, q3, q4, q5, q6, q7, q8, q9, q10⟩ := inj10 h
      subst q1
      subst q2
      subst q3
      subst q4
      subst q5
      subst q6
      subst q7
      subst q8
      subst q9
      subst q10
      exact E 41 _ zd_X_unpack_41
  · have h := iP h h0
    refine G_aload_n F zd_X_unpack_8 rfl (j := 0) rfl ?_
    refine G_get F fa_X_54_X (q := 0) zd_X_unpack_9 rfl rfl ?_
    refine G_goto F zd_X_unpack_12 (tgt := 19) rfl ?_
    refine G_astore_n F zd_X_unpack_19 rfl (by decide) (L' := [(2, .ref ea), (0, .ref xa), (1, .int i1)]) rfl ?_
    refine G_aload_n F zd_X_unpack_20 rfl (j := 0) rfl ?_
    obtain ⟨v12, v13, v14, hc21, h⟩ := bc3_s h
    refine G_callvU F (zk_D_rewind_S l D cB cI cJ sa sb da db pa pb hb ea sn (200) sf dn (160) df pn (64) pf ra rr v12 v13 v14 hc21) (rest := []) [3, 4, 7, 8, 5, 6, 14, 16] rfl rfl rfl (ws' := [(xa, .inr (7, [.ref qa, .ref sa, .ref pa, .ref da, .ref ka, .ref wa, .ref va, .ref ea, .ref ua])), (qa, .inr (4, [.ref qb, .int qn])), (qb, .inl (cB, 160, .inl qf)), (sa, .inr (4, [.ref sb, .int sn])), (sb, .inl (cB, 200, .inl sf)), (pa, .inr (4, [.ref pb, .int pn])), (pb, .inl (cB, 64, .inl pf)), (da, .inr (4, [.ref db, .int v12])), (db, .inl (cB, 160, .inl df)), (ha, .inr (2, [.ref pa, .ref qa])), (ka, .inr (3, [.ref pa, .ref qa, .ref ha, .ref ta, .int an, .int mt, .int co])), (ta, .inl (cI, 32, .inl tf)), (wa, .inr (6, [.ref qa, .ref sa])), (va, .inr (1, [.ref qa, .ref sa])), (hb, .inr (2, [.ref pa, .ref da])), (hc, .inr (2, [.ref pa, .ref da])), (ea, .inr (5, [.ref sa, .ref da, .ref hb, .int v13, .int v14])), (ua, .inr (0, [.ref sa, .ref da, .ref hc, .int zra, .int zrr, .int zrp]))]) rfl (q0 := 16) rfl (x := ⟨"PressSuite$Reader", "rewind", "()V"⟩) cv_X_101_SR rfl rfl ⟨Nat.le_of_ble_eq_true rfl, Nat.le_of_ble_eq_true rfl⟩ hf0 rfl (Nat.le_of_ble_eq_true rfl) zd_X_unpack_21 rfl ?_
    refine G_aload_n F zd_X_unpack_24 rfl (j := 0) rfl ?_
    obtain ⟨v15, v16, v17, v18, hc25, h⟩ := bc4_s h
    refine G_callvA F (zk_SR_readAll l D cB cI cJ sa sb da db pa pb hb ea sn (200) sf v12 (160) df pn (64) pf v13 v14 v15 v16 v17 v18 hc25) (rest := []) [3, 4, 7, 8, 5, 6, 14, 16] rfl rfl rfl (ws' := [(xa, .inr (7, [.ref qa, .ref sa, .ref pa, .ref da, .ref ka, .ref wa, .ref va, .ref ea, .ref ua])), (qa, .inr (4, [.ref qb, .int qn])), (qb, .inl (cB, 160, .inl qf)), (sa, .inr (4, [.ref sb, .int sn])), (sb, .inl (cB, 200, .inl sf)), (pa, .inr (4, [.ref pb, .int pn])), (pb, .inl (cB, 64, .inl pf)), (da, .inr (4, [.ref db, .int v15])), (db, .inl (cB, 160, .inl v16)), (ha, .inr (2, [.ref pa, .ref qa])), (ka, .inr (3, [.ref pa, .ref qa, .ref ha, .ref ta, .int an, .int mt, .int co])), (ta, .inl (cI, 32, .inl tf)), (wa, .inr (6, [.ref qa, .ref sa])), (va, .inr (1, [.ref qa, .ref sa])), (hb, .inr (2, [.ref pa, .ref da])), (hc, .inr (2, [.ref pa, .ref da])), (ea, .inr (5, [.ref sa, .ref da, .ref hb, .int v17, .int v18])), (ua, .inr (0, [.ref sa, .ref da, .ref hc, .int zra, .int zrr, .int zrp]))]) rfl (q0 := 16) rfl (x := ⟨"PressSuite$Reader", "readAll", "()V"⟩) cv_X_106_SR rfl rfl ⟨Nat.le_of_ble_eq_true rfl, Nat.le_of_ble_eq_true rfl⟩ hf0 rfl (Nat.le_of_ble_eq_true rfl) zd_X_unpack_25 rfl ?_
    refine G_aload_n F zd_X_unpack_28 rfl (j := 0) rfl ?_
    obtain ⟨v19, hc29, h⟩ := bc1_s h
    refine G_calliU0 F (zk_D_refused_S l D cB cI cJ sa sb da db pa pb hb ea sn (200) sf v15 (160) v16 pn (64) pf v17 v18 v19 hc29) (rest := []) [3, 4, 7, 8, 5, 6, 14, 16] rfl rfl (q0 := 16) rfl (x := ⟨"PressSuite$Reader", "refused", "()Z"⟩) cv_X_109_SR rfl rfl ⟨Nat.le_of_ble_eq_true rfl, Nat.le_of_ble_eq_true rfl⟩ hf0 rfl (Nat.le_of_ble_eq_true rfl) zd_X_unpack_29 rfl ?_
    refine G_if_eq F zd_X_unpack_32 (tgt := 42) rfl (fun h0 => ?_) (fun h0 => ?_)
    · have h := iP h h0
      refine G_aload_n F zd_X_unpack_42 rfl (j := 1) rfl ?_
      refine G_get F fa_X_14_X (q := 0) zd_X_unpack_43 rfl rfl ?_
      refine G_aload_n F zd_X_unpack_46 rfl (j := 1) rfl ?_
      refine G_get F fa_X_24_X (q := 0) zd_X_unpack_47 rfl rfl ?_
      obtain ⟨v20, v21, hc50, h⟩ := bc2_s h
      refine G_callvV F (zk_R_become l D cB cI cJ qa qb da db qn (160) qf v15 (160) v16 v20 v21 hc50) (rest := []) [1, 2, 7, 8] rfl rfl rfl (ws' := [(xa, .inr (7, [.ref qa, .ref sa, .ref pa, .ref da, .ref ka, .ref wa, .ref va, .ref ea, .ref ua])), (qa, .inr (4, [.ref qb, .int v20])), (qb, .inl (cB, 160, .inl v21)), (sa, .inr (4, [.ref sb, .int sn])), (sb, .inl (cB, 200, .inl sf)), (pa, .inr (4, [.ref pb, .int pn])), (pb, .inl (cB, 64, .inl pf)), (da, .inr (4, [.ref db, .int v15])), (db, .inl (cB, 160, .inl v16)), (ha, .inr (2, [.ref pa, .ref qa])), (ka, .inr (3, [.ref pa, .ref qa, .ref ha, .ref ta, .int an, .int mt, .int co])), (ta, .inl (cI, 32, .inl tf)), (wa, .inr (6, [.ref qa, .ref sa])), (va, .inr (1, [.ref qa, .ref sa])), (hb, .inr (2, [.ref pa, .ref da])), (hc, .inr (2, [.ref pa, .ref da])), (ea, .inr (5, [.ref sa, .ref da, .ref hb, .int v17, .int v18])), (ua, .inr (0, [.ref sa, .ref da, .ref hc, .int zra, .int zrr, .int zrp]))]) rfl (q0 := 1) rfl cv_X_116_R rfl rfl ⟨Nat.le_of_ble_eq_true rfl, Nat.le_of_ble_eq_true rfl⟩ hf0 rfl (Nat.le_of_ble_eq_true rfl) zd_X_unpack_50 rfl ?_
      refine G_aload_n F zd_X_unpack_53 rfl (j := 1) rfl ?_
      refine G_get F fa_X_14_X (q := 0) zd_X_unpack_54 rfl rfl ?_
      refine G_get F fa_X_87_R (q := 1) zd_X_unpack_57 rfl rfl ?_
      obtain ⟨q1, q2, q3, q4, q5, q6, q7, q8, q9, q10⟩ := inj10 h
      subst q1
      subst q2
      subst q3
      subst q4
      subst q5
      subst q6
      subst q7
      subst q8
      subst q9
      subst q10
      exact E 60 _ zd_X_unpack_60
    · have h := iN h h0
      refine G_iconst (v := (-1 : Int32)) F zd_X_unpack_35 (by decide) ?_
      refine G_aload_n F zd_X_unpack_36 rfl (j := 0) rfl ?_
      refine G_get F fa_X_113_SR (q := 16) zd_X_unpack_37 rfl rfl ?_
      refine G_isub F zd_X_unpack_40 ?_
      obtain ⟨q1, q2, q3, q4, q5, q6, q7, q8, q9, q10⟩ := inj10 h
      subst q1
      subst q2
      subst q3
      subst q4
      subst q5
      subst q6
      subst q7
      subst q8
      subst q9
      subst q10
      exact E 41 _ zd_X_unpack_41

def zf_X_size (qn : Int32) (sn : Int32) (pn : Int32) (i1 : Int32) : Option (Int32) := if i1 = 0 then bc0 (zf_X_rowOf_qa i1) fun _ => some qn else if i1 = (1 : Int32) then bc0 (zf_X_rowOf_sa i1) fun _ => some sn else if i1 = (2 : Int32) then bc0 (zf_X_rowOf_pa i1) fun _ => some pn else none
set_option maxHeartbeats 4000000 in
set_option maxRecDepth 100000 in
theorem zk_X_size (l : Launch) (D : va_G) (cB cI cJ : ClassId) (xa : Nat) (qa : Nat) (qb : Nat) (sa : Nat) (sb : Nat) (pa : Nat) (pb : Nat) (da : Nat) (db : Nat) (ka : Nat) (ha : Nat) (ta : Nat) (wa : Nat) (va : Nat) (hb : Nat) (hc : Nat) (ea : Nat) (ua : Nat) (qn : Int32) (qf : Nat → Int32) (sn : Int32) (sf : Nat → Int32) (pn : Int32) (pf : Nat → Int32) (dn : Int32) (df : Nat → Int32) (tf : Nat → Int32) (an : Int32) (mt : Int32) (co : Int32) (ra : Int32) (rr : Int32) (zra : Int32) (zrr : Int32) (zrp : Int32) (i1 : Int32) (r : Int32) (h : zf_X_size qn sn pn i1 = some r) : CoI l zy_X_size zw_X_size { frames := 1, cells := 0, slots := 0, locals := 21 } D cB cI cJ [.ref xa, .int i1] [(xa, .inr (7, [.ref qa, .ref sa, .ref pa, .ref da, .ref ka, .ref wa, .ref va, .ref ea, .ref ua])), (qa, .inr (4, [.ref qb, .int qn])), (qb, .inl (cB, 160, .inl qf)), (sa, .inr (4, [.ref sb, .int sn])), (sb, .inl (cB, 200, .inl sf)), (pa, .inr (4, [.ref pb, .int pn])), (pb, .inl (cB, 64, .inl pf)), (da, .inr (4, [.ref db, .int dn])), (db, .inl (cB, 160, .inl df)), (ha, .inr (2, [.ref pa, .ref qa])), (ka, .inr (3, [.ref pa, .ref qa, .ref ha, .ref ta, .int an, .int mt, .int co])), (ta, .inl (cI, 32, .inl tf)), (wa, .inr (6, [.ref qa, .ref sa])), (va, .inr (1, [.ref qa, .ref sa])), (hb, .inr (2, [.ref pa, .ref da])), (hc, .inr (2, [.ref pa, .ref da])), (ea, .inr (5, [.ref sa, .ref da, .ref hb, .int ra, .int rr])), (ua, .inr (0, [.ref sa, .ref da, .ref hc, .int zra, .int zrr, .int zrp]))] r [(xa, .inr (7, [.ref qa, .ref sa, .ref pa, .ref da, .ref ka, .ref wa, .ref va, .ref ea, .ref ua])), (qa, .inr (4, [.ref qb, .int qn])), (qb, .inl (cB, 160, .inl qf)), (sa, .inr (4, [.ref sb, .int sn])), (sb, .inl (cB, 200, .inl sf)), (pa, .inr (4, [.ref pb, .int pn])), (pb, .inl (cB, 64, .inl pf)), (da, .inr (4, [.ref db, .int dn])), (db, .inl (cB, 160, .inl df)), (ha, .inr (2, [.ref pa, .ref qa])), (ka, .inr (3, [.ref pa, .ref qa, .ref ha, .ref ta, .int an, .int mt, .int co])), (ta, .inl (cI, 32, .inl tf)), (wa, .inr (6, [.ref qa, .ref sa])), (va, .inr (1, [.ref qa, .ref sa])), (hb, .inr (2, [.ref pa, .ref da])), (hc, .inr (2, [.ref pa, .ref da])), (ea, .inr (5, [.ref sa, .ref da, .ref hb, .int ra, .int rr])), (ua, .inr (0, [.ref sa, .ref da, .ref hc, .int zra, .int zrr, .int zrp]))] := by
  unfold zf_X_size at h
  refine CoI.ofG (cc := zc_X_size) (maxL := 2) (own := RX9) (by decide) rfl rfl rfl trivial (Nat.le_of_ble_eq_true rfl) (L0 := [(0, .ref xa), (1, .int i1)]) rfl (fun k F E => ?_)
  refine G_aload_n F zd_X_size_0 rfl (j := 0) rfl ?_
  refine G_iload_n F zd_X_size_1 rfl (j := 1) rfl ?_
  by_cases g0 : i1 = 0
  · have h := iP h g0
    obtain ⟨hc2, h⟩ := bc0_s h
    refine G_callrV0 F (zk_X_rowOf_qa l D cB cI cJ xa qa qb sa sb pa pb da db ka ha ta wa va hb hc ea ua qn qf sn sf pn pf dn df tf an mt co ra rr zra zrr zrp i1 hc2) (rest := []) [0, 1, 2, 3, 4, 5, 6, 7, 8, 9, 10, 11, 12, 13, 14, 15, 16, 17] rfl rfl (q0 := 0) rfl cv_X_64_X rfl rfl ⟨Nat.le_of_ble_eq_true rfl, Nat.le_of_ble_eq_true rfl⟩ hf0 rfl (Nat.le_of_ble_eq_true rfl) zd_X_size_2 rfl ?_
    refine G_get F fa_X_87_R (q := 1) zd_X_size_5 rfl rfl ?_
    have q1 := Option.some.inj h
    subst q1
    exact E 8 _ zd_X_size_8
  have h := iN h g0
  by_cases g1 : i1 = (1 : Int32)
  · have h := iP h g1
    obtain ⟨hc2, h⟩ := bc0_s h
    refine G_callrV0 F (zk_X_rowOf_sa l D cB cI cJ xa qa qb sa sb pa pb da db ka ha ta wa va hb hc ea ua qn qf sn sf pn pf dn df tf an mt co ra rr zra zrr zrp i1 hc2) (rest := []) [0, 1, 2, 3, 4, 5, 6, 7, 8, 9, 10, 11, 12, 13, 14, 15, 16, 17] rfl rfl (q0 := 0) rfl cv_X_64_X rfl rfl ⟨Nat.le_of_ble_eq_true rfl, Nat.le_of_ble_eq_true rfl⟩ hf0 rfl (Nat.le_of_ble_eq_true rfl) zd_X_size_2 rfl ?_
    refine G_get F fa_X_87_R (q := 3) zd_X_size_5 rfl rfl ?_
    have q1 := Option.some.inj h
    subst q1
    exact E 8 _ zd_X_size_8
  have h := iN h g1
  by_cases g2 : i1 = (2 : Int32)
  · have h := iP h g2
    obtain ⟨hc2, h⟩ := bc0_s h
    refine G_callrV0 F (zk_X_rowOf_pa l D cB cI cJ xa qa qb sa sb pa pb da db ka ha ta wa va hb hc ea ua qn qf sn sf pn pf dn df tf an mt co ra rr zra zrr zrp i1 hc2) (rest := []) [0, 1, 2, 3, 4, 5, 6, 7, 8, 9, 10, 11, 12, 13, 14, 15, 16, 17] rfl rfl (q0 := 0) rfl cv_X_64_X rfl rfl ⟨Nat.le_of_ble_eq_true rfl, Nat.le_of_ble_eq_true rfl⟩ hf0 rfl (Nat.le_of_ble_eq_true rfl) zd_X_size_2 rfl ?_
    refine G_get F fa_X_87_R (q := 5) zd_X_size_5 rfl rfl ?_
    have q1 := Option.some.inj h
    subst q1
    exact E 8 _ zd_X_size_8
  have h := iN h g2
  cases h

def zf_X_get (qn : Int32) (qf : Nat → Int32) (sn : Int32) (sf : Nat → Int32) (pn : Int32) (pf : Nat → Int32) (i1 : Int32) (i2 : Int32) : Option (Int32) := if i1 = 0 then bc0 (zf_X_rowOf_qa i1) fun _ => if i2 < 0 then none else if i2 < qn then bc1 (zf_R_byteAt qn (160) qf i2) fun v1 => some v1 else none else if i1 = (1 : Int32) then bc0 (zf_X_rowOf_sa i1) fun _ => if i2 < 0 then none else if i2 < sn then bc1 (zf_R_byteAt sn (200) sf i2) fun v2 => some v2 else none else if i1 = (2 : Int32) then bc0 (zf_X_rowOf_pa i1) fun _ => if i2 < 0 then none else if i2 < pn then bc1 (zf_R_byteAt pn (64) pf i2) fun v3 => some v3 else none else none
set_option maxHeartbeats 4000000 in
set_option maxRecDepth 100000 in
theorem zk_X_get (l : Launch) (D : va_G) (cB cI cJ : ClassId) (xa : Nat) (qa : Nat) (qb : Nat) (sa : Nat) (sb : Nat) (pa : Nat) (pb : Nat) (da : Nat) (db : Nat) (ka : Nat) (ha : Nat) (ta : Nat) (wa : Nat) (va : Nat) (hb : Nat) (hc : Nat) (ea : Nat) (ua : Nat) (qn : Int32) (qf : Nat → Int32) (sn : Int32) (sf : Nat → Int32) (pn : Int32) (pf : Nat → Int32) (dn : Int32) (df : Nat → Int32) (tf : Nat → Int32) (an : Int32) (mt : Int32) (co : Int32) (ra : Int32) (rr : Int32) (zra : Int32) (zrr : Int32) (zrp : Int32) (i1 : Int32) (i2 : Int32) (r : Int32) (h : zf_X_get qn qf sn sf pn pf i1 i2 = some r) : CoI l zy_X_get zw_X_get { frames := 1, cells := 0, slots := 0, locals := 21 } D cB cI cJ [.ref xa, .int i1, .int i2] [(xa, .inr (7, [.ref qa, .ref sa, .ref pa, .ref da, .ref ka, .ref wa, .ref va, .ref ea, .ref ua])), (qa, .inr (4, [.ref qb, .int qn])), (qb, .inl (cB, 160, .inl qf)), (sa, .inr (4, [.ref sb, .int sn])), (sb, .inl (cB, 200, .inl sf)), (pa, .inr (4, [.ref pb, .int pn])), (pb, .inl (cB, 64, .inl pf)), (da, .inr (4, [.ref db, .int dn])), (db, .inl (cB, 160, .inl df)), (ha, .inr (2, [.ref pa, .ref qa])), (ka, .inr (3, [.ref pa, .ref qa, .ref ha, .ref ta, .int an, .int mt, .int co])), (ta, .inl (cI, 32, .inl tf)), (wa, .inr (6, [.ref qa, .ref sa])), (va, .inr (1, [.ref qa, .ref sa])), (hb, .inr (2, [.ref pa, .ref da])), (hc, .inr (2, [.ref pa, .ref da])), (ea, .inr (5, [.ref sa, .ref da, .ref hb, .int ra, .int rr])), (ua, .inr (0, [.ref sa, .ref da, .ref hc, .int zra, .int zrr, .int zrp]))] r [(xa, .inr (7, [.ref qa, .ref sa, .ref pa, .ref da, .ref ka, .ref wa, .ref va, .ref ea, .ref ua])), (qa, .inr (4, [.ref qb, .int qn])), (qb, .inl (cB, 160, .inl qf)), (sa, .inr (4, [.ref sb, .int sn])), (sb, .inl (cB, 200, .inl sf)), (pa, .inr (4, [.ref pb, .int pn])), (pb, .inl (cB, 64, .inl pf)), (da, .inr (4, [.ref db, .int dn])), (db, .inl (cB, 160, .inl df)), (ha, .inr (2, [.ref pa, .ref qa])), (ka, .inr (3, [.ref pa, .ref qa, .ref ha, .ref ta, .int an, .int mt, .int co])), (ta, .inl (cI, 32, .inl tf)), (wa, .inr (6, [.ref qa, .ref sa])), (va, .inr (1, [.ref qa, .ref sa])), (hb, .inr (2, [.ref pa, .ref da])), (hc, .inr (2, [.ref pa, .ref da])), (ea, .inr (5, [.ref sa, .ref da, .ref hb, .int ra, .int rr])), (ua, .inr (0, [.ref sa, .ref da, .ref hc, .int zra, .int zrr, .int zrp]))] := by
  unfold zf_X_get at h
  refine CoI.ofG (cc := zc_X_get) (maxL := 4) (own := RX9) (by decide) rfl rfl rfl trivial (Nat.le_of_ble_eq_true rfl) (L0 := [(0, .ref xa), (1, .int i1), (2, .int i2)]) rfl (fun k F E => ?_)
  refine G_aload_n F zd_X_get_0 rfl (j := 0) rfl ?_
  refine G_iload_n F zd_X_get_1 rfl (j := 1) rfl ?_
  by_cases g0 : i1 = 0
  · have h := iP h g0
    obtain ⟨hc2, h⟩ := bc0_s h
    refine G_callrV0 F (zk_X_rowOf_qa l D cB cI cJ xa qa qb sa sb pa pb da db ka ha ta wa va hb hc ea ua qn qf sn sf pn pf dn df tf an mt co ra rr zra zrr zrp i1 hc2) (rest := []) [0, 1, 2, 3, 4, 5, 6, 7, 8, 9, 10, 11, 12, 13, 14, 15, 16, 17] rfl rfl (q0 := 0) rfl cv_X_64_X rfl rfl ⟨Nat.le_of_ble_eq_true rfl, Nat.le_of_ble_eq_true rfl⟩ hf0 rfl (Nat.le_of_ble_eq_true rfl) zd_X_get_2 rfl ?_
    refine G_astore_n F zd_X_get_5 rfl (by decide) (L' := [(3, .ref qa), (0, .ref xa), (1, .int i1), (2, .int i2)]) rfl ?_
    refine G_iload_n F zd_X_get_6 rfl (j := 3) rfl ?_
    refine G_if_lt F zd_X_get_7 (tgt := 18) rfl (fun h0 => ?_) (fun h0 => ?_)
    · have h := iP h h0
      cases h
    · have h := iN h h0
      refine G_iload_n F zd_X_get_10 rfl (j := 3) rfl ?_
      refine G_aload_n F zd_X_get_11 rfl (j := 0) rfl ?_
      refine G_get F fa_X_87_R (q := 1) zd_X_get_12 rfl rfl ?_
      refine G_icmp_lt F zd_X_get_15 (tgt := 28) rfl (fun h0 => ?_) (fun h0 => ?_)
      · have h := iP h h0
        refine G_aload_n F zd_X_get_28 rfl (j := 0) rfl ?_
        refine G_iload_n F zd_X_get_29 rfl (j := 3) rfl ?_
        obtain ⟨v1, hc30, h⟩ := bc1_s h
        refine G_calliV0 F (zk_R_byteAt l D cB cI cJ qa qb qn (160) qf i2 v1 hc30) (rest := []) [1, 2] rfl rfl (q0 := 1) rfl cv_X_122_R rfl rfl ⟨Nat.le_of_ble_eq_true rfl, Nat.le_of_ble_eq_true rfl⟩ hf0 rfl (Nat.le_of_ble_eq_true rfl) zd_X_get_30 rfl ?_
        have q1 := Option.some.inj h
        subst q1
        exact E 33 _ zd_X_get_33
      · have h := iN h h0
        cases h
  have h := iN h g0
  by_cases g1 : i1 = (1 : Int32)
  · have h := iP h g1
    obtain ⟨hc2, h⟩ := bc0_s h
    refine G_callrV0 F (zk_X_rowOf_sa l D cB cI cJ xa qa qb sa sb pa pb da db ka ha ta wa va hb hc ea ua qn qf sn sf pn pf dn df tf an mt co ra rr zra zrr zrp i1 hc2) (rest := []) [0, 1, 2, 3, 4, 5, 6, 7, 8, 9, 10, 11, 12, 13, 14, 15, 16, 17] rfl rfl (q0 := 0) rfl cv_X_64_X rfl rfl ⟨Nat.le_of_ble_eq_true rfl, Nat.le_of_ble_eq_true rfl⟩ hf0 rfl (Nat.le_of_ble_eq_true rfl) zd_X_get_2 rfl ?_
    refine G_astore_n F zd_X_get_5 rfl (by decide) (L' := [(3, .ref sa), (0, .ref xa), (1, .int i1), (2, .int i2)]) rfl ?_
    refine G_iload_n F zd_X_get_6 rfl (j := 3) rfl ?_
    refine G_if_lt F zd_X_get_7 (tgt := 18) rfl (fun h0 => ?_) (fun h0 => ?_)
    · have h := iP h h0
      cases h
    · have h := iN h h0
      refine G_iload_n F zd_X_get_10 rfl (j := 3) rfl ?_
      refine G_aload_n F zd_X_get_11 rfl (j := 0) rfl ?_
      refine G_get F fa_X_87_R (q := 3) zd_X_get_12 rfl rfl ?_
      refine G_icmp_lt F zd_X_get_15 (tgt := 28) rfl (fun h0 => ?_) (fun h0 => ?_)
      · have h := iP h h0
        refine G_aload_n F zd_X_get_28 rfl (j := 0) rfl ?_
        refine G_iload_n F zd_X_get_29 rfl (j := 3) rfl ?_
        obtain ⟨v2, hc30, h⟩ := bc1_s h
        refine G_calliV0 F (zk_R_byteAt l D cB cI cJ sa sb sn (200) sf i2 v2 hc30) (rest := []) [3, 4] rfl rfl (q0 := 3) rfl cv_X_122_R rfl rfl ⟨Nat.le_of_ble_eq_true rfl, Nat.le_of_ble_eq_true rfl⟩ hf0 rfl (Nat.le_of_ble_eq_true rfl) zd_X_get_30 rfl ?_
        have q1 := Option.some.inj h
        subst q1
        exact E 33 _ zd_X_get_33
      · have h := iN h h0
        cases h
  have h := iN h g1
  by_cases g2 : i1 = (2 : Int32)
  · have h := iP h g2
    obtain ⟨hc2, h⟩ := bc0_s h
    refine G_callrV0 F (zk_X_rowOf_pa l D cB cI cJ xa qa qb sa sb pa pb da db ka ha ta wa va hb hc ea ua qn qf sn sf pn pf dn df tf an mt co ra rr zra zrr zrp i1 hc2) (rest := []) [0, 1, 2, 3, 4, 5, 6, 7, 8, 9, 10, 11, 12, 13, 14, 15, 16, 17] rfl rfl (q0 := 0) rfl cv_X_64_X rfl rfl ⟨Nat.le_of_ble_eq_true rfl, Nat.le_of_ble_eq_true rfl⟩ hf0 rfl (Nat.le_of_ble_eq_true rfl) zd_X_get_2 rfl ?_
    refine G_astore_n F zd_X_get_5 rfl (by decide) (L' := [(3, .ref pa), (0, .ref xa), (1, .int i1), (2, .int i2)]) rfl ?_
    refine G_iload_n F zd_X_get_6 rfl (j := 3) rfl ?_
    refine G_if_lt F zd_X_get_7 (tgt := 18) rfl (fun h0 => ?_) (fun h0 => ?_)
    · have h := iP h h0
      cases h
    · have h := iN h h0
      refine G_iload_n F zd_X_get_10 rfl (j := 3) rfl ?_
      refine G_aload_n F zd_X_get_11 rfl (j := 0) rfl ?_
      refine G_get F fa_X_87_R (q := 5) zd_X_get_12 rfl rfl ?_
      refine G_icmp_lt F zd_X_get_15 (tgt := 28) rfl (fun h0 => ?_) (fun h0 => ?_)
      · have h := iP h h0
        refine G_aload_n F zd_X_get_28 rfl (j := 0) rfl ?_
        refine G_iload_n F zd_X_get_29 rfl (j := 3) rfl ?_
        obtain ⟨v3, hc30, h⟩ := bc1_s h
        refine G_calliV0 F (zk_R_byteAt l D cB cI cJ pa pb pn (64) pf i2 v3 hc30) (rest := []) [5, 6] rfl rfl (q0 := 5) rfl cv_X_122_R rfl rfl ⟨Nat.le_of_ble_eq_true rfl, Nat.le_of_ble_eq_true rfl⟩ hf0 rfl (Nat.le_of_ble_eq_true rfl) zd_X_get_30 rfl ?_
        have q1 := Option.some.inj h
        subst q1
        exact E 33 _ zd_X_get_33
      · have h := iN h h0
        cases h
  have h := iN h g2
  cases h

def zf_X_found (mt : Int32) (co : Int32) (i1 : Int32) : Option (Int32) := if i1 < 0 then none else if i1 ≤ (1 : Int32) then if i1 = 0 then some mt else some co else none
set_option maxHeartbeats 4000000 in
set_option maxRecDepth 100000 in
theorem zk_X_found (l : Launch) (D : va_G) (cB cI cJ : ClassId) (xa : Nat) (qa : Nat) (qb : Nat) (sa : Nat) (sb : Nat) (pa : Nat) (pb : Nat) (da : Nat) (db : Nat) (ka : Nat) (ha : Nat) (ta : Nat) (wa : Nat) (va : Nat) (hb : Nat) (hc : Nat) (ea : Nat) (ua : Nat) (qn : Int32) (qf : Nat → Int32) (sn : Int32) (sf : Nat → Int32) (pn : Int32) (pf : Nat → Int32) (dn : Int32) (df : Nat → Int32) (tf : Nat → Int32) (an : Int32) (mt : Int32) (co : Int32) (ra : Int32) (rr : Int32) (zra : Int32) (zrr : Int32) (zrp : Int32) (i1 : Int32) (r : Int32) (h : zf_X_found mt co i1 = some r) : CoI l zy_X_found zw_X_found { frames := 0, cells := 0, slots := 0, locals := 0 } D cB cI cJ [.ref xa, .int i1] [(xa, .inr (7, [.ref qa, .ref sa, .ref pa, .ref da, .ref ka, .ref wa, .ref va, .ref ea, .ref ua])), (qa, .inr (4, [.ref qb, .int qn])), (qb, .inl (cB, 160, .inl qf)), (sa, .inr (4, [.ref sb, .int sn])), (sb, .inl (cB, 200, .inl sf)), (pa, .inr (4, [.ref pb, .int pn])), (pb, .inl (cB, 64, .inl pf)), (da, .inr (4, [.ref db, .int dn])), (db, .inl (cB, 160, .inl df)), (ha, .inr (2, [.ref pa, .ref qa])), (ka, .inr (3, [.ref pa, .ref qa, .ref ha, .ref ta, .int an, .int mt, .int co])), (ta, .inl (cI, 32, .inl tf)), (wa, .inr (6, [.ref qa, .ref sa])), (va, .inr (1, [.ref qa, .ref sa])), (hb, .inr (2, [.ref pa, .ref da])), (hc, .inr (2, [.ref pa, .ref da])), (ea, .inr (5, [.ref sa, .ref da, .ref hb, .int ra, .int rr])), (ua, .inr (0, [.ref sa, .ref da, .ref hc, .int zra, .int zrr, .int zrp]))] r [(xa, .inr (7, [.ref qa, .ref sa, .ref pa, .ref da, .ref ka, .ref wa, .ref va, .ref ea, .ref ua])), (qa, .inr (4, [.ref qb, .int qn])), (qb, .inl (cB, 160, .inl qf)), (sa, .inr (4, [.ref sb, .int sn])), (sb, .inl (cB, 200, .inl sf)), (pa, .inr (4, [.ref pb, .int pn])), (pb, .inl (cB, 64, .inl pf)), (da, .inr (4, [.ref db, .int dn])), (db, .inl (cB, 160, .inl df)), (ha, .inr (2, [.ref pa, .ref qa])), (ka, .inr (3, [.ref pa, .ref qa, .ref ha, .ref ta, .int an, .int mt, .int co])), (ta, .inl (cI, 32, .inl tf)), (wa, .inr (6, [.ref qa, .ref sa])), (va, .inr (1, [.ref qa, .ref sa])), (hb, .inr (2, [.ref pa, .ref da])), (hc, .inr (2, [.ref pa, .ref da])), (ea, .inr (5, [.ref sa, .ref da, .ref hb, .int ra, .int rr])), (ua, .inr (0, [.ref sa, .ref da, .ref hc, .int zra, .int zrr, .int zrp]))] := by
  unfold zf_X_found at h
  refine CoI.ofG (cc := zc_X_found) (maxL := 2) (own := RX9) (by decide) rfl rfl rfl trivial (Nat.le_of_ble_eq_true rfl) (L0 := [(0, .ref xa), (1, .int i1)]) rfl (fun k F E => ?_)
  refine G_iload_n F zd_X_found_0 rfl (j := 1) rfl ?_
  refine G_if_lt F zd_X_found_1 (tgt := 9) rfl (fun h0 => ?_) (fun h0 => ?_)
  · have h := iP h h0
    cases h
  · have h := iN h h0
    refine G_iload_n F zd_X_found_4 rfl (j := 1) rfl ?_
    refine G_iconst (v := (1 : Int32)) F zd_X_found_5 (by decide) ?_
    refine G_icmp_le F zd_X_found_6 (tgt := 19) rfl (fun h0 => ?_) (fun h0 => ?_)
    · have h := iP h h0
      refine G_iload_n F zd_X_found_19 rfl (j := 1) rfl ?_
      refine G_if_ne F zd_X_found_20 (tgt := 33) rfl (fun h0 => ?_) (fun h0 => ?_)
      · have h := iN h h0
        refine G_aload_n F zd_X_found_33 rfl (j := 0) rfl ?_
        refine G_get F fa_X_32_X (q := 0) zd_X_found_34 rfl rfl ?_
        refine G_get F fa_X_131_P (q := 10) zd_X_found_37 rfl rfl ?_
        have q1 := Option.some.inj h
        subst q1
        exact E 40 _ zd_X_found_40
      · have h := iP h h0
        refine G_aload_n F zd_X_found_23 rfl (j := 0) rfl ?_
        refine G_get F fa_X_32_X (q := 0) zd_X_found_24 rfl rfl ?_
        refine G_get F fa_X_128_P (q := 10) zd_X_found_27 rfl rfl ?_
        refine G_goto F zd_X_found_30 (tgt := 40) rfl ?_
        have q1 := Option.some.inj h
        subst q1
        exact E 40 _ zd_X_found_40
    · have h := iN h h0
      cases h

def zf_X_crc_L11 (qn : Int32) (qf : Nat → Int32) : Nat → (Int32) → (Int32) → Option (Int32 × Int32)
  | 0, _, _ => none
  | n + 1, v1, v2 => if qn ≤ v2 then some (v1, v2) else bc1 (zf_R_byteAt qn (160) qf v2) fun v3 => bc1 (zf_X_crcStep (v1 ^^^ v3)) fun v4 => bnd (v2 + (1 : Int32)) fun v5 => zf_X_crc_L11 qn qf n v4 v5
theorem zf_X_crc_L11_0 (qn : Int32) (qf : Nat → Int32) (v1 : Int32) (v2 : Int32) : zf_X_crc_L11 qn qf 0 v1 v2 = none := rfl
theorem zf_X_crc_L11_s (qn : Int32) (qf : Nat → Int32) (n : Nat) (v1 : Int32) (v2 : Int32) : zf_X_crc_L11 qn qf (n + 1) v1 v2 = (if qn ≤ v2 then some (v1, v2) else bc1 (zf_R_byteAt qn (160) qf v2) fun v3 => bc1 (zf_X_crcStep (v1 ^^^ v3)) fun v4 => bnd (v2 + (1 : Int32)) fun v5 => zf_X_crc_L11 qn qf n v4 v5) := rfl
def zf_X_crc_L11b (sn : Int32) (sf : Nat → Int32) : Nat → (Int32) → (Int32) → Option (Int32 × Int32)
  | 0, _, _ => none
  | n + 1, v8, v9 => if sn ≤ v9 then some (v8, v9) else bc1 (zf_R_byteAt sn (200) sf v9) fun v10 => bc1 (zf_X_crcStep (v8 ^^^ v10)) fun v11 => bnd (v9 + (1 : Int32)) fun v12 => zf_X_crc_L11b sn sf n v11 v12
theorem zf_X_crc_L11b_0 (sn : Int32) (sf : Nat → Int32) (v8 : Int32) (v9 : Int32) : zf_X_crc_L11b sn sf 0 v8 v9 = none := rfl
theorem zf_X_crc_L11b_s (sn : Int32) (sf : Nat → Int32) (n : Nat) (v8 : Int32) (v9 : Int32) : zf_X_crc_L11b sn sf (n + 1) v8 v9 = (if sn ≤ v9 then some (v8, v9) else bc1 (zf_R_byteAt sn (200) sf v9) fun v10 => bc1 (zf_X_crcStep (v8 ^^^ v10)) fun v11 => bnd (v9 + (1 : Int32)) fun v12 => zf_X_crc_L11b sn sf n v11 v12) := rfl
def zf_X_crc_L11c (pn : Int32) (pf : Nat → Int32) : Nat → (Int32) → (Int32) → Option (Int32 × Int32)
  | 0, _, _ => none
  | n + 1, v15, v16 => if pn ≤ v16 then some (v15, v16) else bc1 (zf_R_byteAt pn (64) pf v16) fun v17 => bc1 (zf_X_crcStep (v15 ^^^ v17)) fun v18 => bnd (v16 + (1 : Int32)) fun v19 => zf_X_crc_L11c pn pf n v18 v19
theorem zf_X_crc_L11c_0 (pn : Int32) (pf : Nat → Int32) (v15 : Int32) (v16 : Int32) : zf_X_crc_L11c pn pf 0 v15 v16 = none := rfl
theorem zf_X_crc_L11c_s (pn : Int32) (pf : Nat → Int32) (n : Nat) (v15 : Int32) (v16 : Int32) : zf_X_crc_L11c pn pf (n + 1) v15 v16 = (if pn ≤ v16 then some (v15, v16) else bc1 (zf_R_byteAt pn (64) pf v16) fun v17 => bc1 (zf_X_crcStep (v15 ^^^ v17)) fun v18 => bnd (v16 + (1 : Int32)) fun v19 => zf_X_crc_L11c pn pf n v18 v19) := rfl
def zf_X_crc (qn : Int32) (qf : Nat → Int32) (sn : Int32) (sf : Nat → Int32) (pn : Int32) (pf : Nat → Int32) (i1 : Int32) : Option (Int32) := if i1 = 0 then bc0 (zf_X_rowOf_qa i1) fun _ => bc2 (zf_X_crc_L11 qn qf 1000 (-1 : Int32) (0 : Int32)) fun x6 x7 => some (x6 ^^^ (-1 : Int32)) else if i1 = (1 : Int32) then bc0 (zf_X_rowOf_sa i1) fun _ => bc2 (zf_X_crc_L11b sn sf 1000 (-1 : Int32) (0 : Int32)) fun x13 x14 => some (x13 ^^^ (-1 : Int32)) else if i1 = (2 : Int32) then bc0 (zf_X_rowOf_pa i1) fun _ => bc2 (zf_X_crc_L11c pn pf 1000 (-1 : Int32) (0 : Int32)) fun x20 x21 => some (x20 ^^^ (-1 : Int32)) else none
set_option maxHeartbeats 4000000 in
set_option maxRecDepth 100000 in
theorem zl_X_crc_11 {k : GC} {l : Launch} {D : va_G} {cB cI cJ : ClassId} (F : GF k l { frames := 1, cells := 0, slots := 0, locals := 22 } zc_X_crc 5 RX9 D cB cI cJ) (qn : Int32) (qf : Nat → Int32) (sn : Int32) (sf : Nat → Int32) (pn : Int32) (pf : Nat → Int32) (dn : Int32) (df : Nat → Int32) (tf : Nat → Int32) (an : Int32) (mt : Int32) (co : Int32) (ra : Int32) (rr : Int32) (zra : Int32) (zrr : Int32) (zrp : Int32) (i1 : Int32) (xa : Nat) (qa : Nat) (qb : Nat) (sa : Nat) (sb : Nat) (pa : Nat) (pb : Nat) (da : Nat) (db : Nat) (ka : Nat) (ha : Nat) (ta : Nat) (wa : Nat) (va : Nat) (hb : Nat) (hc : Nat) (ea : Nat) (ua : Nat) : ∀ (n : Nat) (v1 : Int32) (v2 : Int32) (w1 : Int32) (w2 : Int32), zf_X_crc_L11 qn qf n v1 v2 = some (w1, w2) → G D 5 k 0 0 38 [(0, .ref xa), (1, .int i1), (2, .ref qa), (3, .int w1), (4, .int w2)] [] [(xa, .inr (7, [.ref qa, .ref sa, .ref pa, .ref da, .ref ka, .ref wa, .ref va, .ref ea, .ref ua])), (qa, .inr (4, [.ref qb, .int qn])), (qb, .inl (cB, 160, .inl qf)), (sa, .inr (4, [.ref sb, .int sn])), (sb, .inl (cB, 200, .inl sf)), (pa, .inr (4, [.ref pb, .int pn])), (pb, .inl (cB, 64, .inl pf)), (da, .inr (4, [.ref db, .int dn])), (db, .inl (cB, 160, .inl df)), (ha, .inr (2, [.ref pa, .ref qa])), (ka, .inr (3, [.ref pa, .ref qa, .ref ha, .ref ta, .int an, .int mt, .int co])), (ta, .inl (cI, 32, .inl tf)), (wa, .inr (6, [.ref qa, .ref sa])), (va, .inr (1, [.ref qa, .ref sa])), (hb, .inr (2, [.ref pa, .ref da])), (hc, .inr (2, [.ref pa, .ref da])), (ea, .inr (5, [.ref sa, .ref da, .ref hb, .int ra, .int rr])), (ua, .inr (0, [.ref sa, .ref da, .ref hc, .int zra, .int zrr, .int zrp]))] → G D 5 k 0 0 11 [(0, .ref xa), (1, .int i1), (2, .ref qa), (3, .int v1), (4, .int v2)] [] [(xa, .inr (7, [.ref qa, .ref sa, .ref pa, .ref da, .ref ka, .ref wa, .ref va, .ref ea, .ref ua])), (qa, .inr (4, [.ref qb, .int qn])), (qb, .inl (cB, 160, .inl qf)), (sa, .inr (4, [.ref sb, .int sn])), (sb, .inl (cB, 200, .inl sf)), (pa, .inr (4, [.ref pb, .int pn])), (pb, .inl (cB, 64, .inl pf)), (da, .inr (4, [.ref db, .int dn])), (db, .inl (cB, 160, .inl df)), (ha, .inr (2, [.ref pa, .ref qa])), (ka, .inr (3, [.ref pa, .ref qa, .ref ha, .ref ta, .int an, .int mt, .int co])), (ta, .inl (cI, 32, .inl tf)), (wa, .inr (6, [.ref qa, .ref sa])), (va, .inr (1, [.ref qa, .ref sa])), (hb, .inr (2, [.ref pa, .ref da])), (hc, .inr (2, [.ref pa, .ref da])), (ea, .inr (5, [.ref sa, .ref da, .ref hb, .int ra, .int rr])), (ua, .inr (0, [.ref sa, .ref da, .ref hc, .int zra, .int zrr, .int zrp]))] := by
  intro n
  induction n with
  | zero =>
    intro v1 v2 w1 w2 h
    rw [zf_X_crc_L11_0] at h
    cases h
  | succ n ih =>
    intro v1 v2 w1 w2 h hx
    have h := (zf_X_crc_L11_s qn qf n v1 v2).symm.trans h
    refine G_iload F zd_X_crc_11 (j := 4) rfl ?_
    refine G_aload_n F zd_X_crc_13 rfl (j := 2) rfl ?_
    refine G_get F fa_X_87_R (q := 1) zd_X_crc_14 rfl rfl ?_
    refine G_icmp_ge F zd_X_crc_17 (tgt := 38) rfl (fun h0 => ?_) (fun h0 => ?_)
    · have h := iP h h0
      obtain ⟨q1, q2⟩ := inj2 h
      subst q1
      subst q2
      exact G_lv [0, 1, 2, 3, 4] rfl hx
    · have h := iN h h0
      refine G_iload_n F zd_X_crc_20 rfl (j := 3) rfl ?_
      refine G_aload_n F zd_X_crc_21 rfl (j := 2) rfl ?_
      refine G_iload F zd_X_crc_22 (j := 4) rfl ?_
      obtain ⟨v3, hc24, h⟩ := bc1_s h
      refine G_calliV0 F (zk_R_byteAt l D cB cI cJ qa qb qn (160) qf v2 v3 hc24) (rest := [.int v1]) [1, 2] rfl rfl (q0 := 1) rfl cv_X_122_R rfl rfl ⟨Nat.le_of_ble_eq_true rfl, Nat.le_of_ble_eq_true rfl⟩ hf0 rfl (Nat.le_of_ble_eq_true rfl) zd_X_crc_24 rfl ?_
      refine G_ixor F zd_X_crc_27 ?_
      obtain ⟨v4, hc28, h⟩ := bc1_s h
      refine G_calliS0 F (zk_X_crcStep l D cB cI cJ (v1 ^^^ v3) v4 hc28) (rest := []) [] rfl rfl cv_X_134_X rfl rfl ⟨Nat.le_of_ble_eq_true rfl, Nat.le_of_ble_eq_true rfl⟩ hf0 rfl (Nat.le_of_ble_eq_true rfl) zd_X_crc_28 rfl ?_
      refine G_istore_n F zd_X_crc_31 rfl (by decide) (L' := [(3, .int v4), (0, .ref xa), (1, .int i1), (2, .ref qa), (4, .int v2)]) rfl ?_
      obtain ⟨v5, ev5, h⟩ := bnd_s h
      refine G_iinc F zd_X_crc_32 (j := 4) rfl (w := (1 : Int32)) (by decide) ev5 (by decide) (L' := [(4, .int v5), (3, .int v4), (0, .ref xa), (1, .int i1), (2, .ref qa)]) rfl ?_
      refine G_goto F zd_X_crc_35 (tgt := 11) rfl ?_
      exact G_lv [2, 3, 4, 1, 0] rfl (ih _ _ _ _ h hx)
set_option maxHeartbeats 4000000 in
set_option maxRecDepth 100000 in
theorem zl_X_crc_11b {k : GC} {l : Launch} {D : va_G} {cB cI cJ : ClassId} (F : GF k l { frames := 1, cells := 0, slots := 0, locals := 22 } zc_X_crc 5 RX9 D cB cI cJ) (qn : Int32) (qf : Nat → Int32) (sn : Int32) (sf : Nat → Int32) (pn : Int32) (pf : Nat → Int32) (dn : Int32) (df : Nat → Int32) (tf : Nat → Int32) (an : Int32) (mt : Int32) (co : Int32) (ra : Int32) (rr : Int32) (zra : Int32) (zrr : Int32) (zrp : Int32) (i1 : Int32) (xa : Nat) (qa : Nat) (qb : Nat) (sa : Nat) (sb : Nat) (pa : Nat) (pb : Nat) (da : Nat) (db : Nat) (ka : Nat) (ha : Nat) (ta : Nat) (wa : Nat) (va : Nat) (hb : Nat) (hc : Nat) (ea : Nat) (ua : Nat) : ∀ (n : Nat) (v8 : Int32) (v9 : Int32) (w8 : Int32) (w9 : Int32), zf_X_crc_L11b sn sf n v8 v9 = some (w8, w9) → G D 5 k 0 0 38 [(0, .ref xa), (1, .int i1), (2, .ref sa), (3, .int w8), (4, .int w9)] [] [(xa, .inr (7, [.ref qa, .ref sa, .ref pa, .ref da, .ref ka, .ref wa, .ref va, .ref ea, .ref ua])), (qa, .inr (4, [.ref qb, .int qn])), (qb, .inl (cB, 160, .inl qf)), (sa, .inr (4, [.ref sb, .int sn])), (sb, .inl (cB, 200, .inl sf)), (pa, .inr (4, [.ref pb, .int pn])), (pb, .inl (cB, 64, .inl pf)), (da, .inr (4, [.ref db, .int dn])), (db, .inl (cB, 160, .inl df)), (ha, .inr (2, [.ref pa, .ref qa])), (ka, .inr (3, [.ref pa, .ref qa, .ref ha, .ref ta, .int an, .int mt, .int co])), (ta, .inl (cI, 32, .inl tf)), (wa, .inr (6, [.ref qa, .ref sa])), (va, .inr (1, [.ref qa, .ref sa])), (hb, .inr (2, [.ref pa, .ref da])), (hc, .inr (2, [.ref pa, .ref da])), (ea, .inr (5, [.ref sa, .ref da, .ref hb, .int ra, .int rr])), (ua, .inr (0, [.ref sa, .ref da, .ref hc, .int zra, .int zrr, .int zrp]))] → G D 5 k 0 0 11 [(0, .ref xa), (1, .int i1), (2, .ref sa), (3, .int v8), (4, .int v9)] [] [(xa, .inr (7, [.ref qa, .ref sa, .ref pa, .ref da, .ref ka, .ref wa, .ref va, .ref ea, .ref ua])), (qa, .inr (4, [.ref qb, .int qn])), (qb, .inl (cB, 160, .inl qf)), (sa, .inr (4, [.ref sb, .int sn])), (sb, .inl (cB, 200, .inl sf)), (pa, .inr (4, [.ref pb, .int pn])), (pb, .inl (cB, 64, .inl pf)), (da, .inr (4, [.ref db, .int dn])), (db, .inl (cB, 160, .inl df)), (ha, .inr (2, [.ref pa, .ref qa])), (ka, .inr (3, [.ref pa, .ref qa, .ref ha, .ref ta, .int an, .int mt, .int co])), (ta, .inl (cI, 32, .inl tf)), (wa, .inr (6, [.ref qa, .ref sa])), (va, .inr (1, [.ref qa, .ref sa])), (hb, .inr (2, [.ref pa, .ref da])), (hc, .inr (2, [.ref pa, .ref da])), (ea, .inr (5, [.ref sa, .ref da, .ref hb, .int ra, .int rr])), (ua, .inr (0, [.ref sa, .ref da, .ref hc, .int zra, .int zrr, .int zrp]))] := by
  intro n
  induction n with
  | zero =>
    intro v8 v9 w8 w9 h
    rw [zf_X_crc_L11b_0] at h
    cases h
  | succ n ih =>
    intro v8 v9 w8 w9 h hx
    have h := (zf_X_crc_L11b_s sn sf n v8 v9).symm.trans h
    refine G_iload F zd_X_crc_11 (j := 4) rfl ?_
    refine G_aload_n F zd_X_crc_13 rfl (j := 2) rfl ?_
    refine G_get F fa_X_87_R (q := 3) zd_X_crc_14 rfl rfl ?_
    refine G_icmp_ge F zd_X_crc_17 (tgt := 38) rfl (fun h0 => ?_) (fun h0 => ?_)
    · have h := iP h h0
      obtain ⟨q1, q2⟩ := inj2 h
      subst q1
      subst q2
      exact G_lv [0, 1, 2, 3, 4] rfl hx
    · have h := iN h h0
      refine G_iload_n F zd_X_crc_20 rfl (j := 3) rfl ?_
      refine G_aload_n F zd_X_crc_21 rfl (j := 2) rfl ?_
      refine G_iload F zd_X_crc_22 (j := 4) rfl ?_
      obtain ⟨v10, hc24, h⟩ := bc1_s h
      refine G_calliV0 F (zk_R_byteAt l D cB cI cJ sa sb sn (200) sf v9 v10 hc24) (rest := [.int v8]) [3, 4] rfl rfl (q0 := 3) rfl cv_X_122_R rfl rfl ⟨Nat.le_of_ble_eq_true rfl, Nat.le_of_ble_eq_true rfl⟩ hf0 rfl (Nat.le_of_ble_eq_true rfl) zd_X_crc_24 rfl ?_
      refine G_ixor F zd_X_crc_27 ?_
      obtain ⟨v11, hc28, h⟩ := bc1_s h
      refine G_calliS0 F (zk_X_crcStep l D cB cI cJ (v8 ^^^ v10) v11 hc28) (rest := []) [] rfl rfl cv_X_134_X rfl rfl ⟨Nat.le_of_ble_eq_true rfl, Nat.le_of_ble_eq_true rfl⟩ hf0 rfl (Nat.le_of_ble_eq_true rfl) zd_X_crc_28 rfl ?_
      refine G_istore_n F zd_X_crc_31 rfl (by decide) (L' := [(3, .int v11), (0, .ref xa), (1, .int i1), (2, .ref sa), (4, .int v9)]) rfl ?_
      obtain ⟨v12, ev12, h⟩ := bnd_s h
      refine G_iinc F zd_X_crc_32 (j := 4) rfl (w := (1 : Int32)) (by decide) ev12 (by decide) (L' := [(4, .int v12), (3, .int v11), (0, .ref xa), (1, .int i1), (2, .ref sa)]) rfl ?_
      refine G_goto F zd_X_crc_35 (tgt := 11) rfl ?_
      exact G_lv [2, 3, 4, 1, 0] rfl (ih _ _ _ _ h hx)
set_option maxHeartbeats 4000000 in
set_option maxRecDepth 100000 in
theorem zl_X_crc_11c {k : GC} {l : Launch} {D : va_G} {cB cI cJ : ClassId} (F : GF k l { frames := 1, cells := 0, slots := 0, locals := 22 } zc_X_crc 5 RX9 D cB cI cJ) (qn : Int32) (qf : Nat → Int32) (sn : Int32) (sf : Nat → Int32) (pn : Int32) (pf : Nat → Int32) (dn : Int32) (df : Nat → Int32) (tf : Nat → Int32) (an : Int32) (mt : Int32) (co : Int32) (ra : Int32) (rr : Int32) (zra : Int32) (zrr : Int32) (zrp : Int32) (i1 : Int32) (xa : Nat) (qa : Nat) (qb : Nat) (sa : Nat) (sb : Nat) (pa : Nat) (pb : Nat) (da : Nat) (db : Nat) (ka : Nat) (ha : Nat) (ta : Nat) (wa : Nat) (va : Nat) (hb : Nat) (hc : Nat) (ea : Nat) (ua : Nat) : ∀ (n : Nat) (v15 : Int32) (v16 : Int32) (w15 : Int32) (w16 : Int32), zf_X_crc_L11c pn pf n v15 v16 = some (w15, w16) → G D 5 k 0 0 38 [(0, .ref xa), (1, .int i1), (2, .ref pa), (3, .int w15), (4, .int w16)] [] [(xa, .inr (7, [.ref qa, .ref sa, .ref pa, .ref da, .ref ka, .ref wa, .ref va, .ref ea, .ref ua])), (qa, .inr (4, [.ref qb, .int qn])), (qb, .inl (cB, 160, .inl qf)), (sa, .inr (4, [.ref sb, .int sn])), (sb, .inl (cB, 200, .inl sf)), (pa, .inr (4, [.ref pb, .int pn])), (pb, .inl (cB, 64, .inl pf)), (da, .inr (4, [.ref db, .int dn])), (db, .inl (cB, 160, .inl df)), (ha, .inr (2, [.ref pa, .ref qa])), (ka, .inr (3, [.ref pa, .ref qa, .ref ha, .ref ta, .int an, .int mt, .int co])), (ta, .inl (cI, 32, .inl tf)), (wa, .inr (6, [.ref qa, .ref sa])), (va, .inr (1, [.ref qa, .ref sa])), (hb, .inr (2, [.ref pa, .ref da])), (hc, .inr (2, [.ref pa, .ref da])), (ea, .inr (5, [.ref sa, .ref da, .ref hb, .int ra, .int rr])), (ua, .inr (0, [.ref sa, .ref da, .ref hc, .int zra, .int zrr, .int zrp]))] → G D 5 k 0 0 11 [(0, .ref xa), (1, .int i1), (2, .ref pa), (3, .int v15), (4, .int v16)] [] [(xa, .inr (7, [.ref qa, .ref sa, .ref pa, .ref da, .ref ka, .ref wa, .ref va, .ref ea, .ref ua])), (qa, .inr (4, [.ref qb, .int qn])), (qb, .inl (cB, 160, .inl qf)), (sa, .inr (4, [.ref sb, .int sn])), (sb, .inl (cB, 200, .inl sf)), (pa, .inr (4, [.ref pb, .int pn])), (pb, .inl (cB, 64, .inl pf)), (da, .inr (4, [.ref db, .int dn])), (db, .inl (cB, 160, .inl df)), (ha, .inr (2, [.ref pa, .ref qa])), (ka, .inr (3, [.ref pa, .ref qa, .ref ha, .ref ta, .int an, .int mt, .int co])), (ta, .inl (cI, 32, .inl tf)), (wa, .inr (6, [.ref qa, .ref sa])), (va, .inr (1, [.ref qa, .ref sa])), (hb, .inr (2, [.ref pa, .ref da])), (hc, .inr (2, [.ref pa, .ref da])), (ea, .inr (5, [.ref sa, .ref da, .ref hb, .int ra, .int rr])), (ua, .inr (0, [.ref sa, .ref da, .ref hc, .int zra, .int zrr, .int zrp]))] := by
  intro n
  induction n with
  | zero =>
    intro v15 v16 w15 w16 h
    rw [zf_X_crc_L11c_0] at h
    cases h
  | succ n ih =>
    intro v15 v16 w15 w16 h hx
    have h := (zf_X_crc_L11c_s pn pf n v15 v16).symm.trans h
    refine G_iload F zd_X_crc_11 (j := 4) rfl ?_
    refine G_aload_n F zd_X_crc_13 rfl (j := 2) rfl ?_
    refine G_get F fa_X_87_R (q := 5) zd_X_crc_14 rfl rfl ?_
    refine G_icmp_ge F zd_X_crc_17 (tgt := 38) rfl (fun h0 => ?_) (fun h0 => ?_)
    · have h := iP h h0
      obtain ⟨q1, q2⟩ := inj2 h
      subst q1
      subst q2
      exact G_lv [0, 1, 2, 3, 4] rfl hx
    · have h := iN h h0
      refine G_iload_n F zd_X_crc_20 rfl (j := 3) rfl ?_
      refine G_aload_n F zd_X_crc_21 rfl (j := 2) rfl ?_
      refine G_iload F zd_X_crc_22 (j := 4) rfl ?_
      obtain ⟨v17, hc24, h⟩ := bc1_s h
      refine G_calliV0 F (zk_R_byteAt l D cB cI cJ pa pb pn (64) pf v16 v17 hc24) (rest := [.int v15]) [5, 6] rfl rfl (q0 := 5) rfl cv_X_122_R rfl rfl ⟨Nat.le_of_ble_eq_true rfl, Nat.le_of_ble_eq_true rfl⟩ hf0 rfl (Nat.le_of_ble_eq_true rfl) zd_X_crc_24 rfl ?_
      refine G_ixor F zd_X_crc_27 ?_
      obtain ⟨v18, hc28, h⟩ := bc1_s h
      refine G_calliS0 F (zk_X_crcStep l D cB cI cJ (v15 ^^^ v17) v18 hc28) (rest := []) [] rfl rfl cv_X_134_X rfl rfl ⟨Nat.le_of_ble_eq_true rfl, Nat.le_of_ble_eq_true rfl⟩ hf0 rfl (Nat.le_of_ble_eq_true rfl) zd_X_crc_28 rfl ?_
      refine G_istore_n F zd_X_crc_31 rfl (by decide) (L' := [(3, .int v18), (0, .ref xa), (1, .int i1), (2, .ref pa), (4, .int v16)]) rfl ?_
      obtain ⟨v19, ev19, h⟩ := bnd_s h
      refine G_iinc F zd_X_crc_32 (j := 4) rfl (w := (1 : Int32)) (by decide) ev19 (by decide) (L' := [(4, .int v19), (3, .int v18), (0, .ref xa), (1, .int i1), (2, .ref pa)]) rfl ?_
      refine G_goto F zd_X_crc_35 (tgt := 11) rfl ?_
      exact G_lv [2, 3, 4, 1, 0] rfl (ih _ _ _ _ h hx)
set_option maxHeartbeats 4000000 in
set_option maxRecDepth 100000 in
theorem zk_X_crc (l : Launch) (D : va_G) (cB cI cJ : ClassId) (xa : Nat) (qa : Nat) (qb : Nat) (sa : Nat) (sb : Nat) (pa : Nat) (pb : Nat) (da : Nat) (db : Nat) (ka : Nat) (ha : Nat) (ta : Nat) (wa : Nat) (va : Nat) (hb : Nat) (hc : Nat) (ea : Nat) (ua : Nat) (qn : Int32) (qf : Nat → Int32) (sn : Int32) (sf : Nat → Int32) (pn : Int32) (pf : Nat → Int32) (dn : Int32) (df : Nat → Int32) (tf : Nat → Int32) (an : Int32) (mt : Int32) (co : Int32) (ra : Int32) (rr : Int32) (zra : Int32) (zrr : Int32) (zrp : Int32) (i1 : Int32) (r : Int32) (h : zf_X_crc qn qf sn sf pn pf i1 = some r) : CoI l zy_X_crc zw_X_crc { frames := 1, cells := 0, slots := 0, locals := 22 } D cB cI cJ [.ref xa, .int i1] [(xa, .inr (7, [.ref qa, .ref sa, .ref pa, .ref da, .ref ka, .ref wa, .ref va, .ref ea, .ref ua])), (qa, .inr (4, [.ref qb, .int qn])), (qb, .inl (cB, 160, .inl qf)), (sa, .inr (4, [.ref sb, .int sn])), (sb, .inl (cB, 200, .inl sf)), (pa, .inr (4, [.ref pb, .int pn])), (pb, .inl (cB, 64, .inl pf)), (da, .inr (4, [.ref db, .int dn])), (db, .inl (cB, 160, .inl df)), (ha, .inr (2, [.ref pa, .ref qa])), (ka, .inr (3, [.ref pa, .ref qa, .ref ha, .ref ta, .int an, .int mt, .int co])), (ta, .inl (cI, 32, .inl tf)), (wa, .inr (6, [.ref qa, .ref sa])), (va, .inr (1, [.ref qa, .ref sa])), (hb, .inr (2, [.ref pa, .ref da])), (hc, .inr (2, [.ref pa, .ref da])), (ea, .inr (5, [.ref sa, .ref da, .ref hb, .int ra, .int rr])), (ua, .inr (0, [.ref sa, .ref da, .ref hc, .int zra, .int zrr, .int zrp]))] r [(xa, .inr (7, [.ref qa, .ref sa, .ref pa, .ref da, .ref ka, .ref wa, .ref va, .ref ea, .ref ua])), (qa, .inr (4, [.ref qb, .int qn])), (qb, .inl (cB, 160, .inl qf)), (sa, .inr (4, [.ref sb, .int sn])), (sb, .inl (cB, 200, .inl sf)), (pa, .inr (4, [.ref pb, .int pn])), (pb, .inl (cB, 64, .inl pf)), (da, .inr (4, [.ref db, .int dn])), (db, .inl (cB, 160, .inl df)), (ha, .inr (2, [.ref pa, .ref qa])), (ka, .inr (3, [.ref pa, .ref qa, .ref ha, .ref ta, .int an, .int mt, .int co])), (ta, .inl (cI, 32, .inl tf)), (wa, .inr (6, [.ref qa, .ref sa])), (va, .inr (1, [.ref qa, .ref sa])), (hb, .inr (2, [.ref pa, .ref da])), (hc, .inr (2, [.ref pa, .ref da])), (ea, .inr (5, [.ref sa, .ref da, .ref hb, .int ra, .int rr])), (ua, .inr (0, [.ref sa, .ref da, .ref hc, .int zra, .int zrr, .int zrp]))] := by
  unfold zf_X_crc at h
  refine CoI.ofG (cc := zc_X_crc) (maxL := 5) (own := RX9) (by decide) rfl rfl rfl trivial (Nat.le_of_ble_eq_true rfl) (L0 := [(0, .ref xa), (1, .int i1)]) rfl (fun k F E => ?_)
  refine G_aload_n F zd_X_crc_0 rfl (j := 0) rfl ?_
  refine G_iload_n F zd_X_crc_1 rfl (j := 1) rfl ?_
  by_cases g0 : i1 = 0
  · have h := iP h g0
    obtain ⟨hc2, h⟩ := bc0_s h
    refine G_callrV0 F (zk_X_rowOf_qa l D cB cI cJ xa qa qb sa sb pa pb da db ka ha ta wa va hb hc ea ua qn qf sn sf pn pf dn df tf an mt co ra rr zra zrr zrp i1 hc2) (rest := []) [0, 1, 2, 3, 4, 5, 6, 7, 8, 9, 10, 11, 12, 13, 14, 15, 16, 17] rfl rfl (q0 := 0) rfl cv_X_64_X rfl rfl ⟨Nat.le_of_ble_eq_true rfl, Nat.le_of_ble_eq_true rfl⟩ hf0 rfl (Nat.le_of_ble_eq_true rfl) zd_X_crc_2 rfl ?_
    refine G_astore_n F zd_X_crc_5 rfl (by decide) (L' := [(2, .ref qa), (0, .ref xa), (1, .int i1)]) rfl ?_
    refine G_iconst (v := (-1 : Int32)) F zd_X_crc_6 (by decide) ?_
    refine G_istore_n F zd_X_crc_7 rfl (by decide) (L' := [(3, .int (-1 : Int32)), (2, .ref qa), (0, .ref xa), (1, .int i1)]) rfl ?_
    refine G_iconst (v := (0 : Int32)) F zd_X_crc_8 (by decide) ?_
    refine G_istore F zd_X_crc_9 (by decide) (L' := [(4, .int (0 : Int32)), (3, .int (-1 : Int32)), (2, .ref qa), (0, .ref xa), (1, .int i1)]) rfl ?_
    obtain ⟨x6, x7, hl11, h⟩ := bc2_s h
    refine G_lv [3, 4, 2, 1, 0] rfl (zl_X_crc_11 F qn qf sn sf pn pf dn df tf an mt co ra rr zra zrr zrp i1 xa qa qb sa sb pa pb da db ka ha ta wa va hb hc ea ua 1000 (-1 : Int32) (0 : Int32) x6 x7 hl11 ?_)
    refine G_iload_n F zd_X_crc_38 rfl (j := 3) rfl ?_
    refine G_iconst (v := (-1 : Int32)) F zd_X_crc_39 (by decide) ?_
    refine G_ixor F zd_X_crc_40 ?_
    have q1 := Option.some.inj h
    subst q1
    exact E 41 _ zd_X_crc_41
  have h := iN h g0
  by_cases g1 : i1 = (1 : Int32)
  · have h := iP h g1
    obtain ⟨hc2, h⟩ := bc0_s h
    refine G_callrV0 F (zk_X_rowOf_sa l D cB cI cJ xa qa qb sa sb pa pb da db ka ha ta wa va hb hc ea ua qn qf sn sf pn pf dn df tf an mt co ra rr zra zrr zrp i1 hc2) (rest := []) [0, 1, 2, 3, 4, 5, 6, 7, 8, 9, 10, 11, 12, 13, 14, 15, 16, 17] rfl rfl (q0 := 0) rfl cv_X_64_X rfl rfl ⟨Nat.le_of_ble_eq_true rfl, Nat.le_of_ble_eq_true rfl⟩ hf0 rfl (Nat.le_of_ble_eq_true rfl) zd_X_crc_2 rfl ?_
    refine G_astore_n F zd_X_crc_5 rfl (by decide) (L' := [(2, .ref sa), (0, .ref xa), (1, .int i1)]) rfl ?_
    refine G_iconst (v := (-1 : Int32)) F zd_X_crc_6 (by decide) ?_
    refine G_istore_n F zd_X_crc_7 rfl (by decide) (L' := [(3, .int (-1 : Int32)), (2, .ref sa), (0, .ref xa), (1, .int i1)]) rfl ?_
    refine G_iconst (v := (0 : Int32)) F zd_X_crc_8 (by decide) ?_
    refine G_istore F zd_X_crc_9 (by decide) (L' := [(4, .int (0 : Int32)), (3, .int (-1 : Int32)), (2, .ref sa), (0, .ref xa), (1, .int i1)]) rfl ?_
    obtain ⟨x13, x14, hl11, h⟩ := bc2_s h
    refine G_lv [3, 4, 2, 1, 0] rfl (zl_X_crc_11b F qn qf sn sf pn pf dn df tf an mt co ra rr zra zrr zrp i1 xa qa qb sa sb pa pb da db ka ha ta wa va hb hc ea ua 1000 (-1 : Int32) (0 : Int32) x13 x14 hl11 ?_)
    refine G_iload_n F zd_X_crc_38 rfl (j := 3) rfl ?_
    refine G_iconst (v := (-1 : Int32)) F zd_X_crc_39 (by decide) ?_
    refine G_ixor F zd_X_crc_40 ?_
    have q1 := Option.some.inj h
    subst q1
    exact E 41 _ zd_X_crc_41
  have h := iN h g1
  by_cases g2 : i1 = (2 : Int32)
  · have h := iP h g2
    obtain ⟨hc2, h⟩ := bc0_s h
    refine G_callrV0 F (zk_X_rowOf_pa l D cB cI cJ xa qa qb sa sb pa pb da db ka ha ta wa va hb hc ea ua qn qf sn sf pn pf dn df tf an mt co ra rr zra zrr zrp i1 hc2) (rest := []) [0, 1, 2, 3, 4, 5, 6, 7, 8, 9, 10, 11, 12, 13, 14, 15, 16, 17] rfl rfl (q0 := 0) rfl cv_X_64_X rfl rfl ⟨Nat.le_of_ble_eq_true rfl, Nat.le_of_ble_eq_true rfl⟩ hf0 rfl (Nat.le_of_ble_eq_true rfl) zd_X_crc_2 rfl ?_
    refine G_astore_n F zd_X_crc_5 rfl (by decide) (L' := [(2, .ref pa), (0, .ref xa), (1, .int i1)]) rfl ?_
    refine G_iconst (v := (-1 : Int32)) F zd_X_crc_6 (by decide) ?_
    refine G_istore_n F zd_X_crc_7 rfl (by decide) (L' := [(3, .int (-1 : Int32)), (2, .ref pa), (0, .ref xa), (1, .int i1)]) rfl ?_
    refine G_iconst (v := (0 : Int32)) F zd_X_crc_8 (by decide) ?_
    refine G_istore F zd_X_crc_9 (by decide) (L' := [(4, .int (0 : Int32)), (3, .int (-1 : Int32)), (2, .ref pa), (0, .ref xa), (1, .int i1)]) rfl ?_
    obtain ⟨x20, x21, hl11, h⟩ := bc2_s h
    refine G_lv [3, 4, 2, 1, 0] rfl (zl_X_crc_11c F qn qf sn sf pn pf dn df tf an mt co ra rr zra zrr zrp i1 xa qa qb sa sb pa pb da db ka ha ta wa va hb hc ea ua 1000 (-1 : Int32) (0 : Int32) x20 x21 hl11 ?_)
    refine G_iload_n F zd_X_crc_38 rfl (j := 3) rfl ?_
    refine G_iconst (v := (-1 : Int32)) F zd_X_crc_39 (by decide) ?_
    refine G_ixor F zd_X_crc_40 ?_
    have q1 := Option.some.inj h
    subst q1
    exact E 41 _ zd_X_crc_41
  have h := iN h g2
  cases h

def zf_X_hash (qn : Int32) (qf : Nat → Int32) (sn : Int32) (sf : Nat → Int32) (pn : Int32) (pf : Nat → Int32) (i1 : Int32) (i2 : Int32) : Option (Int32) := if i1 = 0 then bc0 (zf_X_rowOf_qa i1) fun _ => bc1 (if qn < (16 : Int32) then some (i2 + (374761393 : Int32)) else bc1 (zf_X_mixLanes qn (160) qf i2) fun v2 => some v2) fun u1 => bc1 (zf_X_mixRest qn (160) qf (u1 + qn)) fun v3 => bc1 (zf_X_finish v3) fun v4 => some v4 else if i1 = (1 : Int32) then bc0 (zf_X_rowOf_sa i1) fun _ => bc1 (if sn < (16 : Int32) then some (i2 + (374761393 : Int32)) else bc1 (zf_X_mixLanes sn (200) sf i2) fun v6 => some v6) fun u5 => bc1 (zf_X_mixRest sn (200) sf (u5 + sn)) fun v7 => bc1 (zf_X_finish v7) fun v8 => some v8 else if i1 = (2 : Int32) then bc0 (zf_X_rowOf_pa i1) fun _ => bc1 (if pn < (16 : Int32) then some (i2 + (374761393 : Int32)) else bc1 (zf_X_mixLanes pn (64) pf i2) fun v10 => some v10) fun u9 => bc1 (zf_X_mixRest pn (64) pf (u9 + pn)) fun v11 => bc1 (zf_X_finish v11) fun v12 => some v12 else none
set_option maxHeartbeats 4000000 in
set_option maxRecDepth 100000 in
theorem zk_X_hash (l : Launch) (D : va_G) (cB cI cJ : ClassId) (xa : Nat) (qa : Nat) (qb : Nat) (sa : Nat) (sb : Nat) (pa : Nat) (pb : Nat) (da : Nat) (db : Nat) (ka : Nat) (ha : Nat) (ta : Nat) (wa : Nat) (va : Nat) (hb : Nat) (hc : Nat) (ea : Nat) (ua : Nat) (qn : Int32) (qf : Nat → Int32) (sn : Int32) (sf : Nat → Int32) (pn : Int32) (pf : Nat → Int32) (dn : Int32) (df : Nat → Int32) (tf : Nat → Int32) (an : Int32) (mt : Int32) (co : Int32) (ra : Int32) (rr : Int32) (zra : Int32) (zrr : Int32) (zrp : Int32) (i1 : Int32) (i2 : Int32) (r : Int32) (h : zf_X_hash qn qf sn sf pn pf i1 i2 = some r) : CoI l zy_X_hash zw_X_hash { frames := 4, cells := 0, slots := 0, locals := 87 } D cB cI cJ [.ref xa, .int i1, .int i2] [(xa, .inr (7, [.ref qa, .ref sa, .ref pa, .ref da, .ref ka, .ref wa, .ref va, .ref ea, .ref ua])), (qa, .inr (4, [.ref qb, .int qn])), (qb, .inl (cB, 160, .inl qf)), (sa, .inr (4, [.ref sb, .int sn])), (sb, .inl (cB, 200, .inl sf)), (pa, .inr (4, [.ref pb, .int pn])), (pb, .inl (cB, 64, .inl pf)), (da, .inr (4, [.ref db, .int dn])), (db, .inl (cB, 160, .inl df)), (ha, .inr (2, [.ref pa, .ref qa])), (ka, .inr (3, [.ref pa, .ref qa, .ref ha, .ref ta, .int an, .int mt, .int co])), (ta, .inl (cI, 32, .inl tf)), (wa, .inr (6, [.ref qa, .ref sa])), (va, .inr (1, [.ref qa, .ref sa])), (hb, .inr (2, [.ref pa, .ref da])), (hc, .inr (2, [.ref pa, .ref da])), (ea, .inr (5, [.ref sa, .ref da, .ref hb, .int ra, .int rr])), (ua, .inr (0, [.ref sa, .ref da, .ref hc, .int zra, .int zrr, .int zrp]))] r [(xa, .inr (7, [.ref qa, .ref sa, .ref pa, .ref da, .ref ka, .ref wa, .ref va, .ref ea, .ref ua])), (qa, .inr (4, [.ref qb, .int qn])), (qb, .inl (cB, 160, .inl qf)), (sa, .inr (4, [.ref sb, .int sn])), (sb, .inl (cB, 200, .inl sf)), (pa, .inr (4, [.ref pb, .int pn])), (pb, .inl (cB, 64, .inl pf)), (da, .inr (4, [.ref db, .int dn])), (db, .inl (cB, 160, .inl df)), (ha, .inr (2, [.ref pa, .ref qa])), (ka, .inr (3, [.ref pa, .ref qa, .ref ha, .ref ta, .int an, .int mt, .int co])), (ta, .inl (cI, 32, .inl tf)), (wa, .inr (6, [.ref qa, .ref sa])), (va, .inr (1, [.ref qa, .ref sa])), (hb, .inr (2, [.ref pa, .ref da])), (hc, .inr (2, [.ref pa, .ref da])), (ea, .inr (5, [.ref sa, .ref da, .ref hb, .int ra, .int rr])), (ua, .inr (0, [.ref sa, .ref da, .ref hc, .int zra, .int zrr, .int zrp]))] := by
  unfold zf_X_hash at h
  refine CoI.ofG (cc := zc_X_hash) (maxL := 5) (own := RX9) (by decide) rfl rfl rfl trivial (Nat.le_of_ble_eq_true rfl) (L0 := [(0, .ref xa), (1, .int i1), (2, .int i2)]) rfl (fun k F E => ?_)
  refine G_aload_n F zd_X_hash_0 rfl (j := 0) rfl ?_
  refine G_iload_n F zd_X_hash_1 rfl (j := 1) rfl ?_
  by_cases g0 : i1 = 0
  · have h := iP h g0
    obtain ⟨hc2, h⟩ := bc0_s h
    refine G_callrV0 F (zk_X_rowOf_qa l D cB cI cJ xa qa qb sa sb pa pb da db ka ha ta wa va hb hc ea ua qn qf sn sf pn pf dn df tf an mt co ra rr zra zrr zrp i1 hc2) (rest := []) [0, 1, 2, 3, 4, 5, 6, 7, 8, 9, 10, 11, 12, 13, 14, 15, 16, 17] rfl rfl (q0 := 0) rfl cv_X_64_X rfl rfl ⟨Nat.le_of_ble_eq_true rfl, Nat.le_of_ble_eq_true rfl⟩ hf0 rfl (Nat.le_of_ble_eq_true rfl) zd_X_hash_2 rfl ?_
    refine G_astore_n F zd_X_hash_5 rfl (by decide) (L' := [(3, .ref qa), (0, .ref xa), (1, .int i1), (2, .int i2)]) rfl ?_
    refine G_aload_n F zd_X_hash_6 rfl (j := 0) rfl ?_
    refine G_get F fa_X_87_R (q := 1) zd_X_hash_7 rfl rfl ?_
    refine G_bipush (v := (16 : Int32)) F zd_X_hash_10 (by decide) ?_
    obtain ⟨u1, hj27, h⟩ := bc1_s h
    have X27 : G D 5 k 0 0 27 [(0, .ref xa), (1, .int i1), (2, .int i2), (3, .ref qa)] [.int u1] [(xa, .inr (7, [.ref qa, .ref sa, .ref pa, .ref da, .ref ka, .ref wa, .ref va, .ref ea, .ref ua])), (qa, .inr (4, [.ref qb, .int qn])), (qb, .inl (cB, 160, .inl qf)), (sa, .inr (4, [.ref sb, .int sn])), (sb, .inl (cB, 200, .inl sf)), (pa, .inr (4, [.ref pb, .int pn])), (pb, .inl (cB, 64, .inl pf)), (da, .inr (4, [.ref db, .int dn])), (db, .inl (cB, 160, .inl df)), (ha, .inr (2, [.ref pa, .ref qa])), (ka, .inr (3, [.ref pa, .ref qa, .ref ha, .ref ta, .int an, .int mt, .int co])), (ta, .inl (cI, 32, .inl tf)), (wa, .inr (6, [.ref qa, .ref sa])), (va, .inr (1, [.ref qa, .ref sa])), (hb, .inr (2, [.ref pa, .ref da])), (hc, .inr (2, [.ref pa, .ref da])), (ea, .inr (5, [.ref sa, .ref da, .ref hb, .int ra, .int rr])), (ua, .inr (0, [.ref sa, .ref da, .ref hc, .int zra, .int zrr, .int zrp]))] := by
      refine G_istore F zd_X_hash_27 (by decide) (L' := [(4, .int u1), (0, .ref xa), (1, .int i1), (2, .int i2), (3, .ref qa)]) rfl ?_
      refine G_aload_n F zd_X_hash_29 rfl (j := 4) rfl ?_
      refine G_iload F zd_X_hash_30 (j := 0) rfl ?_
      refine G_aload_n F zd_X_hash_32 rfl (j := 4) rfl ?_
      refine G_get F fa_X_87_R (q := 1) zd_X_hash_33 rfl rfl ?_
      refine G_iadd F zd_X_hash_36 ?_
      obtain ⟨v3, hc37, h⟩ := bc1_s h
      refine G_calliS0 F (zk_X_mixRest l D cB cI cJ qa qb qn (160) qf (u1 + qn) v3 hc37) (rest := []) [1, 2] rfl rfl cv_X_142_X rfl rfl ⟨Nat.le_of_ble_eq_true rfl, Nat.le_of_ble_eq_true rfl⟩ hf0 rfl (Nat.le_of_ble_eq_true rfl) zd_X_hash_37 rfl ?_
      obtain ⟨v4, hc40, h⟩ := bc1_s h
      refine G_calliS0 F (zk_X_finish l D cB cI cJ v3 v4 hc40) (rest := []) [] rfl rfl cv_X_145_X rfl rfl ⟨Nat.le_of_ble_eq_true rfl, Nat.le_of_ble_eq_true rfl⟩ hf0 rfl (Nat.le_of_ble_eq_true rfl) zd_X_hash_40 rfl ?_
      have q1 := Option.some.inj h
      subst q1
      exact E 43 _ zd_X_hash_43
    have h := hj27
    refine G_icmp_lt F zd_X_hash_12 (tgt := 23) rfl (fun h0 => ?_) (fun h0 => ?_)
    · have h := iP h h0
      refine G_iload_n F zd_X_hash_23 rfl (j := 3) rfl ?_
      refine G_ldc (v := (374761393 : Int32)) F aw_458 zd_X_hash_24 ?_
      refine G_iadd F zd_X_hash_26 ?_
      have q1 := Option.some.inj h
      subst q1
      exact G_lv [1, 2, 3, 0] rfl X27
    · have h := iN h h0
      refine G_aload_n F zd_X_hash_15 rfl (j := 0) rfl ?_
      refine G_iload_n F zd_X_hash_16 rfl (j := 3) rfl ?_
      obtain ⟨v2, hc17, h⟩ := bc1_s h
      refine G_calliS0 F (zk_X_mixLanes l D cB cI cJ qa qb qn (160) qf i2 v2 hc17) (rest := []) [1, 2] rfl rfl cv_X_137_X rfl rfl ⟨Nat.le_of_ble_eq_true rfl, Nat.le_of_ble_eq_true rfl⟩ hf0 rfl (Nat.le_of_ble_eq_true rfl) zd_X_hash_17 rfl ?_
      refine G_goto F zd_X_hash_20 (tgt := 27) rfl ?_
      have q1 := Option.some.inj h
      subst q1
      exact G_lv [1, 2, 3, 0] rfl X27
  have h := iN h g0
  by_cases g1 : i1 = (1 : Int32)
  · have h := iP h g1
    obtain ⟨hc2, h⟩ := bc0_s h
    refine G_callrV0 F (zk_X_rowOf_sa l D cB cI cJ xa qa qb sa sb pa pb da db ka ha ta wa va hb hc ea ua qn qf sn sf pn pf dn df tf an mt co ra rr zra zrr zrp i1 hc2) (rest := []) [0, 1, 2, 3, 4, 5, 6, 7, 8, 9, 10, 11, 12, 13, 14, 15, 16, 17] rfl rfl (q0 := 0) rfl cv_X_64_X rfl rfl ⟨Nat.le_of_ble_eq_true rfl, Nat.le_of_ble_eq_true rfl⟩ hf0 rfl (Nat.le_of_ble_eq_true rfl) zd_X_hash_2 rfl ?_
    refine G_astore_n F zd_X_hash_5 rfl (by decide) (L' := [(3, .ref sa), (0, .ref xa), (1, .int i1), (2, .int i2)]) rfl ?_
    refine G_aload_n F zd_X_hash_6 rfl (j := 0) rfl ?_
    refine G_get F fa_X_87_R (q := 3) zd_X_hash_7 rfl rfl ?_
    refine G_bipush (v := (16 : Int32)) F zd_X_hash_10 (by decide) ?_
    obtain ⟨u5, hj27, h⟩ := bc1_s h
    have X27 : G D 5 k 0 0 27 [(0, .ref xa), (1, .int i1), (2, .int i2), (3, .ref sa)] [.int u5] [(xa, .inr (7, [.ref qa, .ref sa, .ref pa, .ref da, .ref ka, .ref wa, .ref va, .ref ea, .ref ua])), (qa, .inr (4, [.ref qb, .int qn])), (qb, .inl (cB, 160, .inl qf)), (sa, .inr (4, [.ref sb, .int sn])), (sb, .inl (cB, 200, .inl sf)), (pa, .inr (4, [.ref pb, .int pn])), (pb, .inl (cB, 64, .inl pf)), (da, .inr (4, [.ref db, .int dn])), (db, .inl (cB, 160, .inl df)), (ha, .inr (2, [.ref pa, .ref qa])), (ka, .inr (3, [.ref pa, .ref qa, .ref ha, .ref ta, .int an, .int mt, .int co])), (ta, .inl (cI, 32, .inl tf)), (wa, .inr (6, [.ref qa, .ref sa])), (va, .inr (1, [.ref qa, .ref sa])), (hb, .inr (2, [.ref pa, .ref da])), (hc, .inr (2, [.ref pa, .ref da])), (ea, .inr (5, [.ref sa, .ref da, .ref hb, .int ra, .int rr])), (ua, .inr (0, [.ref sa, .ref da, .ref hc, .int zra, .int zrr, .int zrp]))] := by
      refine G_istore F zd_X_hash_27 (by decide) (L' := [(4, .int u5), (0, .ref xa), (1, .int i1), (2, .int i2), (3, .ref sa)]) rfl ?_
      refine G_aload_n F zd_X_hash_29 rfl (j := 4) rfl ?_
      refine G_iload F zd_X_hash_30 (j := 0) rfl ?_
      refine G_aload_n F zd_X_hash_32 rfl (j := 4) rfl ?_
      refine G_get F fa_X_87_R (q := 3) zd_X_hash_33 rfl rfl ?_
      refine G_iadd F zd_X_hash_36 ?_
      obtain ⟨v7, hc37, h⟩ := bc1_s h
      refine G_calliS0 F (zk_X_mixRest l D cB cI cJ sa sb sn (200) sf (u5 + sn) v7 hc37) (rest := []) [3, 4] rfl rfl cv_X_142_X rfl rfl ⟨Nat.le_of_ble_eq_true rfl, Nat.le_of_ble_eq_true rfl⟩ hf0 rfl (Nat.le_of_ble_eq_true rfl) zd_X_hash_37 rfl ?_
      obtain ⟨v8, hc40, h⟩ := bc1_s h
      refine G_calliS0 F (zk_X_finish l D cB cI cJ v7 v8 hc40) (rest := []) [] rfl rfl cv_X_145_X rfl rfl ⟨Nat.le_of_ble_eq_true rfl, Nat.le_of_ble_eq_true rfl⟩ hf0 rfl (Nat.le_of_ble_eq_true rfl) zd_X_hash_40 rfl ?_
      have q1 := Option.some.inj h
      subst q1
      exact E 43 _ zd_X_hash_43
    have h := hj27
    refine G_icmp_lt F zd_X_hash_12 (tgt := 23) rfl (fun h0 => ?_) (fun h0 => ?_)
    · have h := iP h h0
      refine G_iload_n F zd_X_hash_23 rfl (j := 3) rfl ?_
      refine G_ldc (v := (374761393 : Int32)) F aw_458 zd_X_hash_24 ?_
      refine G_iadd F zd_X_hash_26 ?_
      have q1 := Option.some.inj h
      subst q1
      exact G_lv [1, 2, 3, 0] rfl X27
    · have h := iN h h0
      refine G_aload_n F zd_X_hash_15 rfl (j := 0) rfl ?_
      refine G_iload_n F zd_X_hash_16 rfl (j := 3) rfl ?_
      obtain ⟨v6, hc17, h⟩ := bc1_s h
      refine G_calliS0 F (zk_X_mixLanes l D cB cI cJ sa sb sn (200) sf i2 v6 hc17) (rest := []) [3, 4] rfl rfl cv_X_137_X rfl rfl ⟨Nat.le_of_ble_eq_true rfl, Nat.le_of_ble_eq_true rfl⟩ hf0 rfl (Nat.le_of_ble_eq_true rfl) zd_X_hash_17 rfl ?_
      refine G_goto F zd_X_hash_20 (tgt := 27) rfl ?_
      have q1 := Option.some.inj h
      subst q1
      exact G_lv [1, 2, 3, 0] rfl X27
  have h := iN h g1
  by_cases g2 : i1 = (2 : Int32)
  · have h := iP h g2
    obtain ⟨hc2, h⟩ := bc0_s h
    refine G_callrV0 F (zk_X_rowOf_pa l D cB cI cJ xa qa qb sa sb pa pb da db ka ha ta wa va hb hc ea ua qn qf sn sf pn pf dn df tf an mt co ra rr zra zrr zrp i1 hc2) (rest := []) [0, 1, 2, 3, 4, 5, 6, 7, 8, 9, 10, 11, 12, 13, 14, 15, 16, 17] rfl rfl (q0 := 0) rfl cv_X_64_X rfl rfl ⟨Nat.le_of_ble_eq_true rfl, Nat.le_of_ble_eq_true rfl⟩ hf0 rfl (Nat.le_of_ble_eq_true rfl) zd_X_hash_2 rfl ?_
    refine G_astore_n F zd_X_hash_5 rfl (by decide) (L' := [(3, .ref pa), (0, .ref xa), (1, .int i1), (2, .int i2)]) rfl ?_
    refine G_aload_n F zd_X_hash_6 rfl (j := 0) rfl ?_
    refine G_get F fa_X_87_R (q := 5) zd_X_hash_7 rfl rfl ?_
    refine G_bipush (v := (16 : Int32)) F zd_X_hash_10 (by decide) ?_
    obtain ⟨u9, hj27, h⟩ := bc1_s h
    have X27 : G D 5 k 0 0 27 [(0, .ref xa), (1, .int i1), (2, .int i2), (3, .ref pa)] [.int u9] [(xa, .inr (7, [.ref qa, .ref sa, .ref pa, .ref da, .ref ka, .ref wa, .ref va, .ref ea, .ref ua])), (qa, .inr (4, [.ref qb, .int qn])), (qb, .inl (cB, 160, .inl qf)), (sa, .inr (4, [.ref sb, .int sn])), (sb, .inl (cB, 200, .inl sf)), (pa, .inr (4, [.ref pb, .int pn])), (pb, .inl (cB, 64, .inl pf)), (da, .inr (4, [.ref db, .int dn])), (db, .inl (cB, 160, .inl df)), (ha, .inr (2, [.ref pa, .ref qa])), (ka, .inr (3, [.ref pa, .ref qa, .ref ha, .ref ta, .int an, .int mt, .int co])), (ta, .inl (cI, 32, .inl tf)), (wa, .inr (6, [.ref qa, .ref sa])), (va, .inr (1, [.ref qa, .ref sa])), (hb, .inr (2, [.ref pa, .ref da])), (hc, .inr (2, [.ref pa, .ref da])), (ea, .inr (5, [.ref sa, .ref da, .ref hb, .int ra, .int rr])), (ua, .inr (0, [.ref sa, .ref da, .ref hc, .int zra, .int zrr, .int zrp]))] := by
      refine G_istore F zd_X_hash_27 (by decide) (L' := [(4, .int u9), (0, .ref xa), (1, .int i1), (2, .int i2), (3, .ref pa)]) rfl ?_
      refine G_aload_n F zd_X_hash_29 rfl (j := 4) rfl ?_
      refine G_iload F zd_X_hash_30 (j := 0) rfl ?_
      refine G_aload_n F zd_X_hash_32 rfl (j := 4) rfl ?_
      refine G_get F fa_X_87_R (q := 5) zd_X_hash_33 rfl rfl ?_
      refine G_iadd F zd_X_hash_36 ?_
      obtain ⟨v11, hc37, h⟩ := bc1_s h
      refine G_calliS0 F (zk_X_mixRest l D cB cI cJ pa pb pn (64) pf (u9 + pn) v11 hc37) (rest := []) [5, 6] rfl rfl cv_X_142_X rfl rfl ⟨Nat.le_of_ble_eq_true rfl, Nat.le_of_ble_eq_true rfl⟩ hf0 rfl (Nat.le_of_ble_eq_true rfl) zd_X_hash_37 rfl ?_
      obtain ⟨v12, hc40, h⟩ := bc1_s h
      refine G_calliS0 F (zk_X_finish l D cB cI cJ v11 v12 hc40) (rest := []) [] rfl rfl cv_X_145_X rfl rfl ⟨Nat.le_of_ble_eq_true rfl, Nat.le_of_ble_eq_true rfl⟩ hf0 rfl (Nat.le_of_ble_eq_true rfl) zd_X_hash_40 rfl ?_
      have q1 := Option.some.inj h
      subst q1
      exact E 43 _ zd_X_hash_43
    have h := hj27
    refine G_icmp_lt F zd_X_hash_12 (tgt := 23) rfl (fun h0 => ?_) (fun h0 => ?_)
    · have h := iP h h0
      refine G_iload_n F zd_X_hash_23 rfl (j := 3) rfl ?_
      refine G_ldc (v := (374761393 : Int32)) F aw_458 zd_X_hash_24 ?_
      refine G_iadd F zd_X_hash_26 ?_
      have q1 := Option.some.inj h
      subst q1
      exact G_lv [1, 2, 3, 0] rfl X27
    · have h := iN h h0
      refine G_aload_n F zd_X_hash_15 rfl (j := 0) rfl ?_
      refine G_iload_n F zd_X_hash_16 rfl (j := 3) rfl ?_
      obtain ⟨v10, hc17, h⟩ := bc1_s h
      refine G_calliS0 F (zk_X_mixLanes l D cB cI cJ pa pb pn (64) pf i2 v10 hc17) (rest := []) [5, 6] rfl rfl cv_X_137_X rfl rfl ⟨Nat.le_of_ble_eq_true rfl, Nat.le_of_ble_eq_true rfl⟩ hf0 rfl (Nat.le_of_ble_eq_true rfl) zd_X_hash_17 rfl ?_
      refine G_goto F zd_X_hash_20 (tgt := 27) rfl ?_
      have q1 := Option.some.inj h
      subst q1
      exact G_lv [1, 2, 3, 0] rfl X27
  have h := iN h g2
  cases h

