/-! Pure: the calls' totals: crc, hash. -/
theorem crc_in : ∀ (d i n : Nat) (x : Int32), i + d = 8 → d < n → ∃ y, zf_M_crc_L54 n x (nI i) = some (y, nI 8)
  | 0, i, n + 1, x, hd, hn => by
    have e : i = 8 := by omega
    subst e
    refine ⟨x, ?_⟩
    rw [zf_M_crc_L54_s, if_pos (show (8 : Int32) ≤ nI 8 by decide)]
  | d + 1, i, n + 1, x, hd, hn => by
    rw [zf_M_crc_L54_s, if_neg (show ¬ (8 : Int32) ≤ nI i from nI_ge (b := 8) (by omega) (by decide))]
    by_cases g : (x &&& (1 : Int32)) = (1 : Int32)
    · rw [if_pos g, bc1_e]
      simp only [bnd]
      rw [if_neg n10, bc1_e, nI_1]
      exact crc_in d (i + 1) n _ (by omega) (by omega)
    · rw [if_neg g, bc1_e]
      simp only [bnd]
      rw [if_pos trivial, bc1_e, nI_1]
      exact crc_in d (i + 1) n _ (by omega) (by omega)
theorem crc_st (x : Int32) : ∃ y, zf_X_crcStep x = some y ∧ zf_M_crc_L54 1000 x (0 : Int32) = some (y, nI 8) := by
  obtain ⟨y, hy⟩ := crc_in 8 0 1000 x rfl (by decide)
  have hy2 : zf_M_crc_L54 1000 x (0 : Int32) = some (y, nI 8) := hy
  refine ⟨y, ?_, hy2⟩
  unfold zf_X_crcStep
  rw [crc_same, hy2]
  rfl

theorem crc_row0 {c : Nat} {f mf sz : Nat → Int32} (hc : c ≤ 160) (hs : sz 0 = nI c) (h : RR c f mf 0) : ∀ (d k n : Nat) (x : Int32), k + d = c → d < n → ∃ y, zf_X_crc_L11 (nI c) f n x (nI k) = some (y, nI c) ∧ zf_M_crc_L26 mf sz (nI 0) n x (nI k) = some (y, nI c)
  | 0, k, n + 1, x, hd, hn => by
    have e : k = c := by omega
    subst e
    refine ⟨x, ?_, ?_⟩
    · rw [zf_X_crc_L11_s, if_pos (nI_le (by omega) (by omega))]
    · rw [zf_M_crc_L26_s, gd_t (nI_in (by decide) (by decide)), nI_clamp (by decide), hs, if_pos (nI_le (by omega) (by omega))]
  | d + 1, k, n + 1, x, hd, hn => by
    obtain ⟨w, w1, w2⟩ := crc_st (x ^^^ rB f c k)
    obtain ⟨y, e1, e2⟩ := crc_row0 hc hs h d (k + 1) n w (by omega) (by omega)
    refine ⟨y, ?_, ?_⟩
    · rw [zf_X_crc_L11_s, if_neg (nI_ge (by omega) (by omega)), pu_byteAt hc (by decide) (by omega), bc1_e, w1, bc1_e, ← e1]
      simp only [bnd]
      rw [nI_1]
    · rw [zf_M_crc_L26_s, gd_t (nI_in (by decide) (by decide)), nI_clamp (by decide), hs, if_neg (nI_ge (by omega) (by omega)), pm_off, gd_t (nI_in (by omega) (by decide)), nI_clamp (by omega), h k (by omega), ← e2]
      simp only [bnd]
      rw [w2, bc2_e, nI_1]
theorem crc_row1 {c : Nat} {f mf sz : Nat → Int32} (hc : c ≤ 200) (hs : sz 1 = nI c) (h : RR c f mf 1) : ∀ (d k n : Nat) (x : Int32), k + d = c → d < n → ∃ y, zf_X_crc_L11b (nI c) f n x (nI k) = some (y, nI c) ∧ zf_M_crc_L26 mf sz (nI 1) n x (nI k) = some (y, nI c)
  | 0, k, n + 1, x, hd, hn => by
    have e : k = c := by omega
    subst e
    refine ⟨x, ?_, ?_⟩
    · rw [zf_X_crc_L11b_s, if_pos (nI_le (by omega) (by omega))]
    · rw [zf_M_crc_L26_s, gd_t (nI_in (by decide) (by decide)), nI_clamp (by decide), hs, if_pos (nI_le (by omega) (by omega))]
  | d + 1, k, n + 1, x, hd, hn => by
    obtain ⟨w, w1, w2⟩ := crc_st (x ^^^ rB f c k)
    obtain ⟨y, e1, e2⟩ := crc_row1 hc hs h d (k + 1) n w (by omega) (by omega)
    refine ⟨y, ?_, ?_⟩
    · rw [zf_X_crc_L11b_s, if_neg (nI_ge (by omega) (by omega)), pu_byteAt hc (by decide) (by omega), bc1_e, w1, bc1_e, ← e1]
      simp only [bnd]
      rw [nI_1]
    · rw [zf_M_crc_L26_s, gd_t (nI_in (by decide) (by decide)), nI_clamp (by decide), hs, if_neg (nI_ge (by omega) (by omega)), pm_off, gd_t (nI_in (by omega) (by decide)), nI_clamp (by omega), h k (by omega), ← e2]
      simp only [bnd]
      rw [w2, bc2_e, nI_1]
theorem crc_row2 {c : Nat} {f mf sz : Nat → Int32} (hc : c ≤ 64) (hs : sz 2 = nI c) (h : RR c f mf 2) : ∀ (d k n : Nat) (x : Int32), k + d = c → d < n → ∃ y, zf_X_crc_L11c (nI c) f n x (nI k) = some (y, nI c) ∧ zf_M_crc_L26 mf sz (nI 2) n x (nI k) = some (y, nI c)
  | 0, k, n + 1, x, hd, hn => by
    have e : k = c := by omega
    subst e
    refine ⟨x, ?_, ?_⟩
    · rw [zf_X_crc_L11c_s, if_pos (nI_le (by omega) (by omega))]
    · rw [zf_M_crc_L26_s, gd_t (nI_in (by decide) (by decide)), nI_clamp (by decide), hs, if_pos (nI_le (by omega) (by omega))]
  | d + 1, k, n + 1, x, hd, hn => by
    obtain ⟨w, w1, w2⟩ := crc_st (x ^^^ rB f c k)
    obtain ⟨y, e1, e2⟩ := crc_row2 hc hs h d (k + 1) n w (by omega) (by omega)
    refine ⟨y, ?_, ?_⟩
    · rw [zf_X_crc_L11c_s, if_neg (nI_ge (by omega) (by omega)), pu_byteAt hc (by decide) (by omega), bc1_e, w1, bc1_e, ← e1]
      simp only [bnd]
      rw [nI_1]
    · rw [zf_M_crc_L26_s, gd_t (nI_in (by decide) (by decide)), nI_clamp (by decide), hs, if_neg (nI_ge (by omega) (by omega)), pm_off, gd_t (nI_in (by omega) (by decide)), nI_clamp (by omega), h k (by omega), ← e2]
      simp only [bnd]
      rw [w2, bc2_e, nI_1]
theorem st_crc {qn : Int32} {qf : Nat → Int32} {sn : Int32} {sf : Nat → Int32} {pn : Int32} {pf mf sz : Nat → Int32} (h : RW qn qf sn sf pn pf mf sz) (i1 : Int32) : (∃ r, zf_X_crc qn qf sn sf pn pf i1 = some r ∧ zf_M_crc mf sz i1 = some (r, (0 : Int32))) ∨ (zf_X_crc_IA i1 = some () ∧ zf_M_crc mf sz i1 = some ((0 : Int32), (1 : Int32))) := by
  obtain ⟨⟨c0, k0⟩, ⟨c1, k1⟩, ⟨c2, k2⟩⟩ := h
  rcases row_case i1 with rfl | rfl | rfl | ⟨a0, a1, a2, a3⟩
  · obtain ⟨l1, rfl, l3, l4⟩ := k0
    obtain ⟨y, e1, e2⟩ := crc_row0 l1 l3 l4 c0 0 1000 (-1 : Int32) (by omega) (by omega)
    refine Or.inl ⟨y ^^^ (-1 : Int32), ?_, ?_⟩
    · show (bc2 (zf_X_crc_L11 (nI c0) qf 1000 (-1 : Int32) (nI 0)) fun x6 x7 => some (x6 ^^^ (-1 : Int32))) = _
      rw [e1]
      rfl
    · show (bc2 (zf_M_crc_L26 mf sz (nI 0) 1000 (-1 : Int32) (nI 0)) fun x18 x19 => some ((x18 ^^^ (-1 : Int32)), (0 : Int32))) = _
      rw [e2]
      rfl
  · obtain ⟨l1, rfl, l3, l4⟩ := k1
    obtain ⟨y, e1, e2⟩ := crc_row1 l1 l3 l4 c1 0 1000 (-1 : Int32) (by omega) (by omega)
    refine Or.inl ⟨y ^^^ (-1 : Int32), ?_, ?_⟩
    · show (bc2 (zf_X_crc_L11b (nI c1) sf 1000 (-1 : Int32) (nI 0)) fun x6 x7 => some (x6 ^^^ (-1 : Int32))) = _
      rw [e1]
      rfl
    · show (bc2 (zf_M_crc_L26 mf sz (nI 1) 1000 (-1 : Int32) (nI 0)) fun x18 x19 => some ((x18 ^^^ (-1 : Int32)), (0 : Int32))) = _
      rw [e2]
      rfl
  · obtain ⟨l1, rfl, l3, l4⟩ := k2
    obtain ⟨y, e1, e2⟩ := crc_row2 l1 l3 l4 c2 0 1000 (-1 : Int32) (by omega) (by omega)
    refine Or.inl ⟨y ^^^ (-1 : Int32), ?_, ?_⟩
    · show (bc2 (zf_X_crc_L11c (nI c2) pf 1000 (-1 : Int32) (nI 0)) fun x6 x7 => some (x6 ^^^ (-1 : Int32))) = _
      rw [e1]
      rfl
    · show (bc2 (zf_M_crc_L26 mf sz (nI 2) 1000 (-1 : Int32) (nI 0)) fun x18 x19 => some ((x18 ^^^ (-1 : Int32)), (0 : Int32))) = _
      rw [e2]
      rfl
  · refine Or.inr ⟨?_, ?_⟩
    · unfold zf_X_crc_IA
      rw [if_neg a0, if_neg a1, if_neg a2, xr_IA a0 a1 a2]
      rfl
    · unfold zf_M_crc
      rw [a3]
      rfl
def tn (a b : Int32) : Int32 := (a <<< (b &&& 31)) ||| (ush a ((32 : Int32) - b))
theorem turn_e (a b : Int32) : zf_M_turn a b = some (tn a b) := rfl
theorem lane_in {c r i : Nat} {mf sz : Nat → Int32} (hc : c ≤ 200) (hr : r < 3) (hi : i < 4) (hs : sz r = nI c) : ∀ (e k n : Nat) (v : Int32), c ≤ k + 16 * e + 15 → e < n → k ≤ 300 → ∃ y z, zf_M_lane_L6 mf sz (nI r) (nI i) n v (nI k) = some (y, z)
  | e, k, n + 1, v, he, hn, hk => by
    rw [zf_M_lane_L6_s, gd_t (nI_in hr (by decide)), nI_clamp (by omega), hs, show nI k + (16 : Int32) = nI (k + 16) from nI_add k 16]
    by_cases g : c < k + 16
    · rw [if_pos (nI_lt g (by omega))]
      exact ⟨_, _, rfl⟩
    · obtain ⟨e, rfl⟩ : ∃ z, e = z + 1 := ⟨e - 1, by omega⟩
      rw [if_neg (nI_nlt (by omega) (by omega)), show (4 : Int32) * nI i = nI (4 * i) from pk_mul 4 i, nI_add k (4 * i), pm_rowInt hr (by omega), bc1_e, turn_e, bc1_e]
      simp only [bnd]
      exact lane_in hc hr hi hs e (k + 16) n _ (by omega) (by omega) (by omega)
theorem lane_tot {c ln r i : Nat} {f mf sz : Nat → Int32} (hc : c ≤ ln) (hl : ln ≤ 200) (hr : r < 3) (hi : i < 4) (h : RR c f mf r) (hs : sz r = nI c) (v : Int32) : ∃ y, zf_X_lane (nI c) ln f (nI (4 * i)) v = some y ∧ zf_M_lane mf sz (nI r) (nI i) v = some y := by
  obtain ⟨y, z, e⟩ := lane_in (mf := mf) (sz := sz) (i := i) (by omega) hr hi hs 13 0 1000 v (by omega) (by decide) (by decide)
  have e0 : zf_M_lane_L6 mf sz (nI r) (nI i) 1000 v (0 : Int32) = some (y, z) := e
  have e1 : zf_X_lane_L5 (nI c) ln f (nI (4 * i)) 1000 v (0 : Int32) = some (y, z) := (lane_same hc hl hr hi h hs 1000 0 v (by decide)).trans e
  refine ⟨y, ?_, ?_⟩
  · unfold zf_X_lane
    rw [e1]
    rfl
  · unfold zf_M_lane
    rw [e0]
    rfl
theorem rest1 {c ln r : Nat} {f mf : Nat → Int32} (hc : c ≤ ln) (hl : ln ≤ 200) (hr : r < 3) (h : RR c f mf r) : ∀ (e k n : Nat) (v : Int32), k + 4 * e = c / 4 * 4 → e < n → ∃ y, zf_X_mixRest_L19 (nI c) ln f (nI (c / 4 * 4)) n v (nI k) = some (y, nI (c / 4 * 4)) ∧ zf_M_hash_L124 mf (nI r) (nI c) n v (nI k) (nI k) = some (y, nI (c / 4 * 4), nI (c / 4 * 4))
  | 0, k, n + 1, v, he, hn => by
    have e : k = c / 4 * 4 := by omega
    subst e
    refine ⟨v, ?_, ?_⟩
    · rw [zf_X_mixRest_L19_s, if_pos (nI_le (by omega) (by omega))]
    · rw [zf_M_hash_L124_s, show nI (c / 4 * 4) + (4 : Int32) = nI (c / 4 * 4 + 4) from nI_add _ 4, if_pos (nI_lt (by omega) (by omega))]
  | e + 1, k, n + 1, v, he, hn => by
    have hk : nI k + (4 : Int32) = nI (k + 4) := nI_add _ 4
    obtain ⟨y, e1, e2⟩ := rest1 hc hl hr h e (k + 4) n (tn (v + h4 (fun j => mf (200 * r + j)) k * (-1028477379 : Int32)) (17 : Int32) * (668265263 : Int32)) (by omega) (by omega)
    refine ⟨y, ?_, ?_⟩
    · rw [zf_X_mixRest_L19_s, if_neg (nI_ge (by omega) (by omega)), int_same hc hl hr h (by omega), pm_rowInt hr (by omega), bc1_e, turn_same, turn_e, bc1_e]
      simp only [bnd]
      rw [hk]
      exact e1
    · rw [zf_M_hash_L124_s, hk, if_neg (nI_nlt (by omega) (by omega)), pm_rowInt hr (by omega), bc1_e, turn_e, bc1_e]
      simp only [bnd]
      exact e2
theorem rest2 {c ln r : Nat} {f mf : Nat → Int32} (hc : c ≤ ln) (hl : ln ≤ 200) (hr : r < 3) (h : RR c f mf r) : ∀ (d k n : Nat) (v : Int32), k + d = c → d < n → ∃ y, zf_X_mixRest_L54 (nI c) ln f n v (nI k) = some (y, nI c) ∧ zf_M_hash_L171 mf (nI r) (nI c) n v (nI k) = some (y, nI c)
  | 0, k, n + 1, v, he, hn => by
    have e : k = c := by omega
    subst e
    refine ⟨v, ?_, ?_⟩
    · rw [zf_X_mixRest_L54_s, if_pos (nI_le (by omega) (by omega))]
    · rw [zf_M_hash_L171_s, if_pos (nI_le (by omega) (by omega))]
  | d + 1, k, n + 1, v, he, hn => by
    obtain ⟨y, e1, e2⟩ := rest2 hc hl hr h d (k + 1) n (tn (v + rB f c k * (374761393 : Int32)) (11 : Int32) * (-1640531535 : Int32)) (by omega) (by omega)
    refine ⟨y, ?_, ?_⟩
    · rw [zf_X_mixRest_L54_s, if_neg (nI_ge (by omega) (by omega)), pu_byteAt hc (by omega) (by omega), bc1_e, turn_same, turn_e, bc1_e]
      simp only [bnd]
      rw [nI_1]
      exact e1
    · rw [zf_M_hash_L171_s, if_neg (nI_ge (by omega) (by omega)), pm_off, gd_t (nI_in (by omega) (by decide)), nI_clamp (by omega), h k (by omega), turn_e, bc1_e]
      simp only [bnd]
      rw [nI_1]
      exact e2
theorem and4 : ∀ c < 201, nI c &&& (-4 : Int32) = nI (c / 4 * 4) := by decide +kernel
theorem and16 : ∀ c < 201, nI c &&& (-16 : Int32) = nI (c / 16 * 16) := by decide +kernel
theorem div16 : ∀ c < 201, nI c / (16 : Int32) * (16 : Int32) = nI (c / 16 * 16) := by decide +kernel
theorem hash_tot {c ln r : Nat} {f mf sz : Nat → Int32} (hc : c ≤ ln) (hl : ln ≤ 200) (hr : r < 3) (h : RR c f mf r) (hs : sz r = nI c) (s : Int32) : ∃ y, (bc1 (if nI c < (16 : Int32) then some (s + (374761393 : Int32)) else bc1 (zf_X_mixLanes (nI c) ln f s) fun v2 => some v2) fun u1 => bc1 (zf_X_mixRest (nI c) ln f (u1 + nI c)) fun v3 => bc1 (zf_X_finish v3) fun v4 => some v4) = some y ∧ zf_M_hash mf sz (nI r) s = some (y, (0 : Int32)) := by
  obtain ⟨u, u1, u2⟩ : ∃ u, (if nI c < (16 : Int32) then some (s + (374761393 : Int32)) else bc1 (zf_X_mixLanes (nI c) ln f s) fun v2 => some v2) = some u ∧ (if nI c < (16 : Int32) then some (s + (374761393 : Int32)) else bc1 (zf_M_lane mf sz (nI r) (0 : Int32) ((s + (-1640531535 : Int32)) + (-2048144777 : Int32))) fun v8 => bc1 (zf_M_turn v8 (1 : Int32)) fun v9 => bc1 (zf_M_lane mf sz (nI r) (1 : Int32) (s + (-2048144777 : Int32))) fun v10 => bc1 (zf_M_turn v10 (7 : Int32)) fun v11 => bc1 (zf_M_lane mf sz (nI r) (2 : Int32) s) fun v12 => bc1 (zf_M_turn v12 (12 : Int32)) fun v13 => bc1 (zf_M_lane mf sz (nI r) (3 : Int32) (s - (-1640531535 : Int32))) fun v14 => bc1 (zf_M_turn v14 (18 : Int32)) fun v15 => bnd (((v9 + v11) + v13) + v15) fun v16 => some v16) = some u := by
    by_cases g : nI c < (16 : Int32)
    · exact ⟨_, if_pos g, if_pos g⟩
    · obtain ⟨a, a1, a2⟩ := lane_tot (i := 0) hc hl hr (by decide) h hs ((s + (-1640531535 : Int32)) + (-2048144777 : Int32))
      obtain ⟨b, b1, b2⟩ := lane_tot (i := 1) hc hl hr (by decide) h hs (s + (-2048144777 : Int32))
      obtain ⟨d, d1, d2⟩ := lane_tot (i := 2) hc hl hr (by decide) h hs s
      obtain ⟨e, e1, e2⟩ := lane_tot (i := 3) hc hl hr (by decide) h hs (s - (-1640531535 : Int32))
      have a1 : zf_X_lane (nI c) ln f (0 : Int32) ((s + (-1640531535 : Int32)) + (-2048144777 : Int32)) = some a := a1
      have b1 : zf_X_lane (nI c) ln f (4 : Int32) (s + (-2048144777 : Int32)) = some b := b1
      have d1 : zf_X_lane (nI c) ln f (8 : Int32) s = some d := d1
      have e1 : zf_X_lane (nI c) ln f (12 : Int32) (s - (-1640531535 : Int32)) = some e := e1
      have a2 : zf_M_lane mf sz (nI r) (0 : Int32) ((s + (-1640531535 : Int32)) + (-2048144777 : Int32)) = some a := a2
      have b2 : zf_M_lane mf sz (nI r) (1 : Int32) (s + (-2048144777 : Int32)) = some b := b2
      have d2 : zf_M_lane mf sz (nI r) (2 : Int32) s = some d := d2
      have e2 : zf_M_lane mf sz (nI r) (3 : Int32) (s - (-1640531535 : Int32)) = some e := e2
      rw [if_neg g, if_neg g, a2, b2, d2, e2]
      unfold zf_X_mixLanes
      rw [a1, b1, d1, e1]
      exact ⟨_, rfl, rfl⟩
  obtain ⟨x, x1, x2⟩ := rest1 hc hl hr h (c / 4 - c / 16 * 4) (c / 16 * 16) 1000 (u + nI c) (by omega) (by omega)
  obtain ⟨y, y1, y2⟩ := rest2 hc hl hr h (c - c / 4 * 4) (c / 4 * 4) 1000 x (by omega) (by omega)
  obtain ⟨z, hz⟩ : ∃ z, zf_X_finish y = some z := ⟨_, rfl⟩
  refine ⟨z, ?_, ?_⟩
  · rw [u1, bc1_e]
    unfold zf_X_mixRest
    rw [and4 c (by omega), and16 c (by omega)]
    simp only [bnd]
    rw [x1, bc2_e, y1, bc2_e, bc1_e, hz, bc1_e]
  · unfold zf_M_hash
    rw [isRow_n hr, bc1_e, if_neg n10, bc1_e, fails_00, bc2_e, if_pos rfl, gd_t (nI_in hr (by decide)), nI_clamp (by omega), hs]
    simp only [bnd] at u2 ⊢
    rw [u2, bc1_e, div16 c (by omega), x2, bc3_e, y2, bc2_e]
    have := Option.some.inj hz
    rw [← this]


theorem st_hash {qn : Int32} {qf : Nat → Int32} {sn : Int32} {sf : Nat → Int32} {pn : Int32} {pf mf sz : Nat → Int32} (h : RW qn qf sn sf pn pf mf sz) (i1 i2 : Int32) : (∃ r, zf_X_hash qn qf sn sf pn pf i1 i2 = some r ∧ zf_M_hash mf sz i1 i2 = some (r, (0 : Int32))) ∨ (zf_X_hash_IA i1 = some () ∧ zf_M_hash mf sz i1 i2 = some ((0 : Int32), (1 : Int32))) := by
  obtain ⟨⟨c0, k0⟩, ⟨c1, k1⟩, ⟨c2, k2⟩⟩ := h
  rcases row_case i1 with rfl | rfl | rfl | ⟨a0, a1, a2, a3⟩
  · obtain ⟨l1, rfl, l3, l4⟩ := k0
    obtain ⟨y, e1, e2⟩ := hash_tot (r := 0) l1 (by decide) (by decide) l4 l3 i2
    exact Or.inl ⟨y, e1, e2⟩
  · obtain ⟨l1, rfl, l3, l4⟩ := k1
    obtain ⟨y, e1, e2⟩ := hash_tot (r := 1) l1 (by decide) (by decide) l4 l3 i2
    exact Or.inl ⟨y, e1, e2⟩
  · obtain ⟨l1, rfl, l3, l4⟩ := k2
    obtain ⟨y, e1, e2⟩ := hash_tot (r := 2) l1 (by decide) (by decide) l4 l3 i2
    exact Or.inl ⟨y, e1, e2⟩
  · refine Or.inr ⟨?_, ?_⟩
    · unfold zf_X_hash_IA
      rw [if_neg a0, if_neg a1, if_neg a2, xr_IA a0 a1 a2]
      rfl
    · unfold zf_M_hash
      rw [a3]
      rfl
