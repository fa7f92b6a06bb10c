/-! Pure: the calls' totals: put, empty, size, get, found. -/
theorem row_case (i : Int32) : i = 0 ∨ i = (1 : Int32) ∨ i = (2 : Int32) ∨ (¬ i = 0 ∧ ¬ i = (1 : Int32) ∧ ¬ i = (2 : Int32) ∧ zf_M_isRow i = some (0 : Int32)) := by
  by_cases h0 : i = 0
  · exact Or.inl h0
  by_cases h1 : i = (1 : Int32)
  · exact Or.inr (Or.inl h1)
  by_cases h2 : i = (2 : Int32)
  · exact Or.inr (Or.inr (Or.inl h2))
  refine Or.inr (Or.inr (Or.inr ⟨h0, h1, h2, ?_⟩))
  unfold zf_M_isRow
  by_cases g : i < 0
  · rw [if_pos g]
  · rw [if_neg g]
    obtain ⟨N, hN, rfl⟩ := nI_of g
    have : 3 ≤ N := by
      rcases (show N = 0 ∨ N = 1 ∨ N = 2 ∨ 3 ≤ N by omega) with rfl | rfl | rfl | z
      · exact absurd rfl h0
      · exact absurd rfl h1
      · exact absurd rfl h2
      · exact z
    rw [if_pos (show (3 : Int32) ≤ nI N from nI_le (a := 3) this hN)]
def R1 (c lim r : Nat) (n : Int32) (f mf sz : Nat → Int32) : Prop := c ≤ lim ∧ n = nI c ∧ sz r = nI c ∧ RR c f mf r
def RW (qn : Int32) (qf : Nat → Int32) (sn : Int32) (sf : Nat → Int32) (pn : Int32) (pf mf sz : Nat → Int32) : Prop := (∃ c, R1 c 160 0 qn qf mf sz) ∧ (∃ c, R1 c 200 1 sn sf mf sz) ∧ (∃ c, R1 c 64 2 pn pf mf sz)
theorem R1_k {c lim r : Nat} {n : Int32} {f mf mf' sz sz' : Nat → Int32} (h : R1 c lim r n f mf sz) (hl : lim ≤ 200) (e : sz' r = sz r) (g : ∀ j, 200 * r ≤ j → j < 200 * r + 200 → mf' j = mf j) : R1 c lim r n f mf' sz' := by
  obtain ⟨a, b, d, k⟩ := h
  exact ⟨a, b, e.trans d, fun j hj => (g (200 * r + j) (by omega) (by omega)).trans (k j hj)⟩
theorem R1_z {lim r : Nat} {f mf sz : Nat → Int32} (e : sz r = 0) : R1 0 lim r 0 f mf sz := ⟨Nat.zero_le _, rfl, e, fun j hj => absurd hj (Nat.not_lt_zero j)⟩
theorem fails_00 : zf_M_fails (0 : Int32) (0 : Int32) = some ((0 : Int32), (0 : Int32)) := by decide
theorem fails_10 : zf_M_fails (1 : Int32) (0 : Int32) = some ((1 : Int32), (1 : Int32)) := by decide
theorem fails_01 : zf_M_fails (0 : Int32) (1 : Int32) = some ((1 : Int32), (2 : Int32)) := by decide
theorem isRow_n {r : Nat} (h : r < 3) : zf_M_isRow (nI r) = some (1 : Int32) := by
  rcases (show r = 0 ∨ r = 1 ∨ r = 2 by omega) with rfl | rfl | rfl <;> decide
theorem in3 {r : Nat} (h : r < 3) : ¬ (nI r < 0 ∨ 3 ≤ r) := fun z => z.elim (nI_pos (by omega)) (fun z => by omega)
theorem n10 : ¬ (1 : Int32) = 0 := by decide
theorem xr_IA {i : Int32} (h0 : ¬ i = 0) (h1 : ¬ i = (1 : Int32)) (h2 : ¬ i = (2 : Int32)) : zf_X_rowOf_IA i = some () := by
  unfold zf_X_rowOf_IA
  rw [if_neg h0, if_neg h1, if_neg h2]

theorem st_empty {qn : Int32} {qf : Nat → Int32} {sn : Int32} {sf : Nat → Int32} {pn : Int32} {pf mf sz : Nat → Int32} (h : RW qn qf sn sf pn pf mf sz) (i1 : Int32) : (∃ r qn' sn' pn' sz', zf_X_empty qn sn pn i1 = some (r, qn', sn', pn') ∧ zf_M_empty sz i1 = some (r, (0 : Int32), sz') ∧ RW qn' qf sn' sf pn' pf mf sz') ∨ (zf_X_empty_IA i1 = some () ∧ zf_M_empty sz i1 = some ((0 : Int32), (1 : Int32), sz)) := by
  obtain ⟨⟨c0, k0⟩, ⟨c1, k1⟩, ⟨c2, k2⟩⟩ := h
  rcases row_case i1 with rfl | rfl | rfl | ⟨a0, a1, a2, a3⟩
  · exact Or.inl ⟨qn, 0, sn, pn, upd sz 0 0, rfl, (show zf_M_empty sz (0 : Int32) = some (sz 0, (0 : Int32), upd sz 0 0) from rfl).trans (by rw [k0.2.2.1, k0.2.1]), ⟨0, R1_z rfl⟩, ⟨c1, R1_k k1 (by decide) rfl (fun _ _ _ => rfl)⟩, ⟨c2, R1_k k2 (by decide) rfl (fun _ _ _ => rfl)⟩⟩
  · exact Or.inl ⟨sn, qn, 0, pn, upd sz 1 0, rfl, (show zf_M_empty sz (1 : Int32) = some (sz 1, (0 : Int32), upd sz 1 0) from rfl).trans (by rw [k1.2.2.1, k1.2.1]), ⟨c0, R1_k k0 (by decide) rfl (fun _ _ _ => rfl)⟩, ⟨0, R1_z rfl⟩, ⟨c2, R1_k k2 (by decide) rfl (fun _ _ _ => rfl)⟩⟩
  · exact Or.inl ⟨pn, qn, sn, 0, upd sz 2 0, rfl, (show zf_M_empty sz (2 : Int32) = some (sz 2, (0 : Int32), upd sz 2 0) from rfl).trans (by rw [k2.2.2.1, k2.2.1]), ⟨c0, R1_k k0 (by decide) rfl (fun _ _ _ => rfl)⟩, ⟨c1, R1_k k1 (by decide) rfl (fun _ _ _ => rfl)⟩, ⟨0, R1_z rfl⟩⟩
  · refine Or.inr ⟨?_, ?_⟩
    · unfold zf_X_empty_IA
      rw [if_neg a0, if_neg a1, if_neg a2, xr_IA a0 a1 a2]
      rfl
    · unfold zf_M_empty
      rw [a3]
      rfl
theorem st_size {qn : Int32} {qf : Nat → Int32} {sn : Int32} {sf : Nat → Int32} {pn : Int32} {pf mf sz : Nat → Int32} (h : RW qn qf sn sf pn pf mf sz) (i1 : Int32) : (∃ r, zf_X_size qn sn pn i1 = some r ∧ zf_M_size sz i1 = some (r, (0 : Int32))) ∨ (zf_X_size_IA i1 = some () ∧ zf_M_size sz i1 = some ((0 : Int32), (1 : Int32))) := by
  obtain ⟨⟨c0, k0⟩, ⟨c1, k1⟩, ⟨c2, k2⟩⟩ := h
  rcases row_case i1 with rfl | rfl | rfl | ⟨a0, a1, a2, a3⟩
  · exact Or.inl ⟨qn, rfl, (show zf_M_size sz (0 : Int32) = some (sz 0, (0 : Int32)) from rfl).trans (by rw [k0.2.2.1, k0.2.1])⟩
  · exact Or.inl ⟨sn, rfl, (show zf_M_size sz (1 : Int32) = some (sz 1, (0 : Int32)) from rfl).trans (by rw [k1.2.2.1, k1.2.1])⟩
  · exact Or.inl ⟨pn, rfl, (show zf_M_size sz (2 : Int32) = some (sz 2, (0 : Int32)) from rfl).trans (by rw [k2.2.2.1, k2.2.1])⟩
  · refine Or.inr ⟨?_, ?_⟩
    · unfold zf_X_size_IA
      rw [if_neg a0, if_neg a1, if_neg a2, xr_IA a0 a1 a2]
      rfl
    · unfold zf_M_size
      rw [a3]
      rfl
theorem st_found {mt co : Int32} (i1 : Int32) : (∃ r, zf_X_found mt co i1 = some r ∧ zf_M_found mt co i1 = some (r, (0 : Int32))) ∨ (zf_X_found_IA i1 = some () ∧ zf_M_found mt co i1 = some ((0 : Int32), (1 : Int32))) := by
  by_cases h0 : i1 = 0
  · subst h0
    exact Or.inl ⟨mt, rfl, rfl⟩
  by_cases h1 : i1 = (1 : Int32)
  · subst h1
    exact Or.inl ⟨co, rfl, rfl⟩
  refine Or.inr ⟨?_, ?_⟩
  · unfold zf_X_found_IA
    by_cases g : i1 < 0
    · rw [if_pos g]
    · rw [if_neg g]
      by_cases g2 : i1 ≤ (1 : Int32)
      · obtain ⟨N, hN, rfl⟩ := nI_of2 (n := 1) rfl g g2
        rcases (show N = 0 ∨ N = 1 by omega) with rfl | rfl
        · exact absurd rfl h0
        · exact absurd rfl h1
      · rw [if_neg g2]
  · unfold zf_M_found
    rw [if_neg h0, if_neg h1]
    rfl
theorem mg_get {c r K : Nat} {mf sz : Nat → Int32} (hr : r < 3) (hc : c ≤ 200) (hs : sz r = nI c) (hK : K < c) : zf_M_get mf sz (nI r) (nI K) = some (mf (200 * r + K), (0 : Int32)) := by
  unfold zf_M_get
  rw [isRow_n hr, bc1_e, if_neg n10, bc1_e, if_pos rfl, if_neg (nI_pos (by omega)), gd_t (nI_in hr (by decide)), nI_clamp (by omega), hs, if_pos (nI_lt hK (by omega)), bc1_e, fails_00, bc2_e, if_pos rfl, pm_off, gd_t (nI_in (by omega) (by decide)), nI_clamp (by omega)]
theorem mg_getS {c r : Nat} {mf sz : Nat → Int32} {i2 : Int32} (hr : r < 3) (hs : sz r = nI c) (g : i2 < 0 ∨ ¬ i2 < nI c) : zf_M_get mf sz (nI r) i2 = some ((0 : Int32), (2 : Int32)) := by
  unfold zf_M_get
  rw [isRow_n hr, bc1_e, if_neg n10, bc1_e, if_pos rfl]
  by_cases g0 : i2 < 0
  · rw [if_pos g0, bc1_e, fails_01, bc2_e, if_neg n10]
  · rw [if_neg g0, gd_t (nI_in hr (by decide)), nI_clamp (by omega), hs, if_neg (g.resolve_left g0), bc1_e, fails_01, bc2_e, if_neg n10]
theorem st_get {qn : Int32} {qf : Nat → Int32} {sn : Int32} {sf : Nat → Int32} {pn : Int32} {pf mf sz : Nat → Int32} (h : RW qn qf sn sf pn pf mf sz) (i1 i2 : Int32) : (∃ r, zf_X_get qn qf sn sf pn pf i1 i2 = some r ∧ zf_M_get mf sz i1 i2 = some (r, (0 : Int32))) ∨ (zf_X_get_IA qn sn pn i1 i2 = some () ∧ zf_M_get mf sz i1 i2 = some ((0 : Int32), (1 : Int32))) ∨ (zf_X_get_IS qn sn pn i1 i2 = some () ∧ zf_M_get mf sz i1 i2 = some ((0 : Int32), (2 : Int32))) := by
  obtain ⟨⟨c0, k0⟩, ⟨c1, k1⟩, ⟨c2, k2⟩⟩ := h
  rcases row_case i1 with rfl | rfl | rfl | ⟨a0, a1, a2, a3⟩
  · obtain ⟨l1, rfl, l3, l4⟩ := k0
    by_cases g : i2 < 0
    · refine Or.inr (Or.inr ⟨?_, mg_getS (r := 0) (by decide) l3 (Or.inl g)⟩)
      show (if i2 < 0 then some () else if i2 < nI c0 then none else some ()) = some ()
      rw [if_pos g]
    · obtain ⟨K, hK, rfl⟩ := nI_of g
      by_cases g2 : K < c0
      · refine Or.inl ⟨rB qf c0 K, ?_, (mg_get (r := 0) (by decide) (by omega) l3 g2).trans (by rw [l4 K g2])⟩
        show (if nI K < 0 then none else if nI K < nI c0 then bc1 (zf_R_byteAt (nI c0) 160 qf (nI K)) fun v => some v else none) = some _
        rw [if_neg g, if_pos (nI_lt g2 (by omega)), pu_byteAt l1 (by decide) hK]
        rfl
      · refine Or.inr (Or.inr ⟨?_, mg_getS (r := 0) (by decide) l3 (Or.inr (nI_nlt (by omega) hK))⟩)
        show (if nI K < 0 then some () else if nI K < nI c0 then none else some ()) = some ()
        rw [if_neg g, if_neg (nI_nlt (by omega) hK)]
  · obtain ⟨l1, rfl, l3, l4⟩ := k1
    by_cases g : i2 < 0
    · refine Or.inr (Or.inr ⟨?_, mg_getS (r := 1) (by decide) l3 (Or.inl g)⟩)
      show (if i2 < 0 then some () else if i2 < nI c1 then none else some ()) = some ()
      rw [if_pos g]
    · obtain ⟨K, hK, rfl⟩ := nI_of g
      by_cases g2 : K < c1
      · refine Or.inl ⟨rB sf c1 K, ?_, (mg_get (r := 1) (by decide) (by omega) l3 g2).trans (by rw [l4 K g2])⟩
        show (if nI K < 0 then none else if nI K < nI c1 then bc1 (zf_R_byteAt (nI c1) 200 sf (nI K)) fun v => some v else none) = some _
        rw [if_neg g, if_pos (nI_lt g2 (by omega)), pu_byteAt l1 (by decide) hK]
        rfl
      · refine Or.inr (Or.inr ⟨?_, mg_getS (r := 1) (by decide) l3 (Or.inr (nI_nlt (by omega) hK))⟩)
        show (if nI K < 0 then some () else if nI K < nI c1 then none else some ()) = some ()
        rw [if_neg g, if_neg (nI_nlt (by omega) hK)]
  · obtain ⟨l1, rfl, l3, l4⟩ := k2
    by_cases g : i2 < 0
    · refine Or.inr (Or.inr ⟨?_, mg_getS (r := 2) (by decide) l3 (Or.inl g)⟩)
      show (if i2 < 0 then some () else if i2 < nI c2 then none else some ()) = some ()
      rw [if_pos g]
    · obtain ⟨K, hK, rfl⟩ := nI_of g
      by_cases g2 : K < c2
      · refine Or.inl ⟨rB pf c2 K, ?_, (mg_get (r := 2) (by decide) (by omega) l3 g2).trans (by rw [l4 K g2])⟩
        show (if nI K < 0 then none else if nI K < nI c2 then bc1 (zf_R_byteAt (nI c2) 64 pf (nI K)) fun v => some v else none) = some _
        rw [if_neg g, if_pos (nI_lt g2 (by omega)), pu_byteAt l1 (by decide) hK]
        rfl
      · refine Or.inr (Or.inr ⟨?_, mg_getS (r := 2) (by decide) l3 (Or.inr (nI_nlt (by omega) hK))⟩)
        show (if nI K < 0 then some () else if nI K < nI c2 then none else some ()) = some ()
        rw [if_neg g, if_neg (nI_nlt (by omega) hK)]
  · refine Or.inr (Or.inl ⟨?_, ?_⟩)
    · unfold zf_X_get_IA
      rw [if_neg a0, if_neg a1, if_neg a2, xr_IA a0 a1 a2]
      rfl
    · unfold zf_M_get
      rw [a3]
      rfl
theorem sh_s (v : Int64) {i : Nat} (h : i < 8) : (lshr v ((8 : Int32) * nI i)).toBitVec = v.toBitVec.sshiftRight (8 * i) := by
  rcases (show i = 0 ∨ i = 1 ∨ i = 2 ∨ i = 3 ∨ i = 4 ∨ i = 5 ∨ i = 6 ∨ i = 7 by omega) with rfl | rfl | rfl | rfl | rfl | rfl | rfl | rfl <;> rfl
theorem sh_u (v : Int64) {i : Nat} (h : i < 8) : (lush v ((8 : Int32) * nI i)).toBitVec = v.toBitVec >>> (8 * i) := by
  rcases (show i = 0 ∨ i = 1 ∨ i = 2 ∨ i = 3 ∨ i = 4 ∨ i = 5 ∨ i = 6 ∨ i = 7 by omega) with rfl | rfl | rfl | rfl | rfl | rfl | rfl | rfl <;> rfl
theorem byte_eq (v : Int64) {i : Nat} (h : i < 8) : ((lshr v ((8 : Int32) * nI i)) &&& (255 : Int64)).toInt32 = (lush v ((8 : Int32) * nI i)).toInt32 &&& 255 := by
  apply Int32.toBitVec_inj.mp
  rw [Int64.toBitVec_toInt32, Int64.toBitVec_and, Int32.toBitVec_and, Int64.toBitVec_toInt32, sh_s v h, sh_u v h]
  apply BitVec.eq_of_getLsbD_eq
  intro k hk
  have hm : ∀ k < 32, 8 ≤ k → (255 : Int32).toBitVec.getLsbD k = false := by decide
  have hm2 : ∀ k < 32, 8 ≤ k → (255 : Int64).toBitVec.getLsbD k = false := by decide
  have hm3 : ∀ k < 8, (255 : Int32).toBitVec.getLsbD k = true := by decide
  have hm4 : ∀ k < 8, (255 : Int64).toBitVec.getLsbD k = true := by decide
  rw [BitVec.getLsbD_signExtend, BitVec.getLsbD_and, BitVec.getLsbD_and, BitVec.getLsbD_signExtend, if_pos (show k < 64 by omega), if_pos (show k < 64 by omega)]
  rcases Nat.lt_or_ge k 8 with z | z
  · rw [hm3 k z, hm4 k z, BitVec.getLsbD_sshiftRight, BitVec.getLsbD_ushiftRight, if_pos (show 8 * i + k < 64 by omega)]
    have : ¬ 64 ≤ k := by omega
    simp [this, hk]
  · rw [hm k hk z, hm2 k hk z, Bool.and_false, Bool.and_false, Bool.and_false]
theorem mg_put {c r N : Nat} {mf sz : Nat → Int32} {j2 : Int64} (hr : r < 3) (hs : sz r = nI c) (hN1 : 1 ≤ N) (hN8 : N ≤ 8) {lim : Nat} (hm : zf_M_most (nI r) = some (nI lim)) (hl : lim ≤ 200) (hc : c + N ≤ lim) {g' : Nat → Int32} {x : Int32} (hL : zf_M_put_L66 sz (nI r) j2 (nI N) 1000 (0 : Int32) mf = some (x, g')) : zf_M_put mf sz (nI r) j2 (nI N) = some ((0 : Int32), g', upd sz r (nI (c + N))) := by
  unfold zf_M_put
  rw [isRow_n hr, bc1_e, if_neg n10, if_neg (show ¬ nI N < (1 : Int32) from nI_nlt (b := 1) hN1 (by omega)), if_pos (show nI N ≤ (8 : Int32) from nI_le (b := 8) hN8 (by omega)), bc1_e, if_pos rfl, gd_t (nI_in hr (by decide)), hm, bc1_e, nI_clamp (by omega), hs, nI_add, if_pos (nI_le hc (by omega)), bc1_e, fails_00, bc2_e, if_pos rfl, hL, bc2_e, gd_t (in3 hr), gd_t (in3 hr)]
  rfl
theorem mg_putA {r : Nat} {mf sz : Nat → Int32} {j2 : Int64} {i4 : Int32} (hr : r < 3) (g : i4 < (1 : Int32) ∨ ¬ i4 ≤ (8 : Int32)) : zf_M_put mf sz (nI r) j2 i4 = some ((1 : Int32), mf, sz) := by
  unfold zf_M_put
  rw [isRow_n hr, bc1_e, if_neg n10]
  by_cases g0 : i4 < (1 : Int32)
  · rw [if_pos g0, bc1_e, if_neg n10, bc1_e, fails_10, bc2_e, if_neg n10]
  · rw [if_neg g0, if_neg (g.resolve_left g0), bc1_e, if_neg n10, bc1_e, fails_10, bc2_e, if_neg n10]
theorem mg_putS {c r N : Nat} {mf sz : Nat → Int32} {j2 : Int64} (hr : r < 3) (hs : sz r = nI c) (hN1 : 1 ≤ N) (hN8 : N ≤ 8) {lim : Nat} (hm : zf_M_most (nI r) = some (nI lim)) (hl : lim ≤ 200) (hc0 : c ≤ 200) (hc : lim < c + N) : zf_M_put mf sz (nI r) j2 (nI N) = some ((2 : Int32), mf, sz) := by
  unfold zf_M_put
  rw [isRow_n hr, bc1_e, if_neg n10, if_neg (show ¬ nI N < (1 : Int32) from nI_nlt (b := 1) hN1 (by omega)), if_pos (show nI N ≤ (8 : Int32) from nI_le (b := 8) hN8 (by omega)), bc1_e, if_pos rfl, gd_t (nI_in hr (by decide)), hm, bc1_e, nI_clamp (by omega), hs, nI_add, if_neg (nI_ge hc (by omega)), bc1_e, fails_01, bc2_e, if_neg n10]
theorem put_pair0 {c N : Nat} {sz : Nat → Int32} {j2 : Int64} (hN8 : N ≤ 8) (hc : c + N ≤ 160) (hs : sz 0 = nI c) : ∀ (d i n : Nat) (f g : Nat → Int32), i + d = N → d < n → (∀ j, j < c + i → g (200 * 0 + j) = f j &&& 255) → ∃ f' g', zf_X_put_L53 j2 (nI N) n (nI i) (nI (c + i)) f = some (nI N, nI (c + N), f') ∧ zf_M_put_L66 sz (nI 0) j2 (nI N) n (nI i) g = some (nI N, g') ∧ (∀ j, j < c + N → g' (200 * 0 + j) = f' j &&& 255) ∧ (∀ j, (j < 200 * 0 ∨ 200 * 0 + 200 ≤ j) → g' j = g j)
  | 0, i, n + 1, f, g, hd, hn, h => by
    have e : i = N := by omega
    subst e
    refine ⟨f, g, ?_, ?_, h, fun _ _ => rfl⟩
    · rw [zf_X_put_L53_s, if_pos (nI_le (by omega) (by omega))]
    · rw [zf_M_put_L66_s, if_pos (nI_le (by omega) (by omega))]
  | d + 1, i, n + 1, f, g, hd, hn, h => by
    have hb := byte_eq j2 (i := i) (by omega)
    obtain ⟨f', g', e1, e2, e3, e4⟩ := put_pair0 hN8 hc hs d (i + 1) n (upd f (c + i) ((lush j2 ((8 : Int32) * nI i)).toInt32).toInt8.toInt32) (upd g (200 * 0 + c + i) (((lshr j2 ((8 : Int32) * nI i)) &&& (255 : Int64)).toInt32)) (by omega) (by omega) (by
      intro j hj
      by_cases z : j = c + i
      · subst z
        rw [show (200 * 0 + (c + i)) = 200 * 0 + c + i by omega]
        unfold upd
        rw [if_pos rfl, if_pos rfl, pz_b, hb]
      · unfold upd
        rw [if_neg z, if_neg (show ¬ 200 * 0 + j = 200 * 0 + c + i by omega)]
        exact h j (by omega))
    refine ⟨f', g', ?_, ?_, e3, fun j hj => (e4 j hj).trans ?_⟩
    · rw [zf_X_put_L53_s, if_neg (nI_ge (by omega) (by omega)), pu_add (by omega) (by decide), bc2_e, ← e1]
      simp only [bnd]
      rw [nI_1]
      rfl
    · rw [zf_M_put_L66_s, if_neg (nI_ge (by omega) (by omega)), gd_t (nI_in (by decide) (by decide)), nI_clamp (by omega), hs, pm_off, nI_add, gd_t (nI_in (by omega) (by decide)), nI_clamp (by omega), ← e2]
      simp only [bnd]
      rw [nI_1]
    · unfold upd
      rw [if_neg (by omega)]
theorem put_pair1 {c N : Nat} {sz : Nat → Int32} {j2 : Int64} (hN8 : N ≤ 8) (hc : c + N ≤ 200) (hs : sz 1 = nI c) : ∀ (d i n : Nat) (f g : Nat → Int32), i + d = N → d < n → (∀ j, j < c + i → g (200 * 1 + j) = f j &&& 255) → ∃ f' g', zf_X_put_L53b j2 (nI N) n (nI i) (nI (c + i)) f = some (nI N, nI (c + N), f') ∧ zf_M_put_L66 sz (nI 1) j2 (nI N) n (nI i) g = some (nI N, g') ∧ (∀ j, j < c + N → g' (200 * 1 + j) = f' j &&& 255) ∧ (∀ j, (j < 200 * 1 ∨ 200 * 1 + 200 ≤ j) → g' j = g j)
  | 0, i, n + 1, f, g, hd, hn, h => by
    have e : i = N := by omega
    subst e
    refine ⟨f, g, ?_, ?_, h, fun _ _ => rfl⟩
    · rw [zf_X_put_L53b_s, if_pos (nI_le (by omega) (by omega))]
    · rw [zf_M_put_L66_s, if_pos (nI_le (by omega) (by omega))]
  | d + 1, i, n + 1, f, g, hd, hn, h => by
    have hb := byte_eq j2 (i := i) (by omega)
    obtain ⟨f', g', e1, e2, e3, e4⟩ := put_pair1 hN8 hc hs d (i + 1) n (upd f (c + i) ((lush j2 ((8 : Int32) * nI i)).toInt32).toInt8.toInt32) (upd g (200 * 1 + c + i) (((lshr j2 ((8 : Int32) * nI i)) &&& (255 : Int64)).toInt32)) (by omega) (by omega) (by
      intro j hj
      by_cases z : j = c + i
      · subst z
        rw [show (200 * 1 + (c + i)) = 200 * 1 + c + i by omega]
        unfold upd
        rw [if_pos rfl, if_pos rfl, pz_b, hb]
      · unfold upd
        rw [if_neg z, if_neg (show ¬ 200 * 1 + j = 200 * 1 + c + i by omega)]
        exact h j (by omega))
    refine ⟨f', g', ?_, ?_, e3, fun j hj => (e4 j hj).trans ?_⟩
    · rw [zf_X_put_L53b_s, if_neg (nI_ge (by omega) (by omega)), pu_add (by omega) (by decide), bc2_e, ← e1]
      simp only [bnd]
      rw [nI_1]
      rfl
    · rw [zf_M_put_L66_s, if_neg (nI_ge (by omega) (by omega)), gd_t (nI_in (by decide) (by decide)), nI_clamp (by omega), hs, pm_off, nI_add, gd_t (nI_in (by omega) (by decide)), nI_clamp (by omega), ← e2]
      simp only [bnd]
      rw [nI_1]
    · unfold upd
      rw [if_neg (by omega)]
theorem put_pair2 {c N : Nat} {sz : Nat → Int32} {j2 : Int64} (hN8 : N ≤ 8) (hc : c + N ≤ 64) (hs : sz 2 = nI c) : ∀ (d i n : Nat) (f g : Nat → Int32), i + d = N → d < n → (∀ j, j < c + i → g (200 * 2 + j) = f j &&& 255) → ∃ f' g', zf_X_put_L53c j2 (nI N) n (nI i) (nI (c + i)) f = some (nI N, nI (c + N), f') ∧ zf_M_put_L66 sz (nI 2) j2 (nI N) n (nI i) g = some (nI N, g') ∧ (∀ j, j < c + N → g' (200 * 2 + j) = f' j &&& 255) ∧ (∀ j, (j < 200 * 2 ∨ 200 * 2 + 200 ≤ j) → g' j = g j)
  | 0, i, n + 1, f, g, hd, hn, h => by
    have e : i = N := by omega
    subst e
    refine ⟨f, g, ?_, ?_, h, fun _ _ => rfl⟩
    · rw [zf_X_put_L53c_s, if_pos (nI_le (by omega) (by omega))]
    · rw [zf_M_put_L66_s, if_pos (nI_le (by omega) (by omega))]
  | d + 1, i, n + 1, f, g, hd, hn, h => by
    have hb := byte_eq j2 (i := i) (by omega)
    obtain ⟨f', g', e1, e2, e3, e4⟩ := put_pair2 hN8 hc hs d (i + 1) n (upd f (c + i) ((lush j2 ((8 : Int32) * nI i)).toInt32).toInt8.toInt32) (upd g (200 * 2 + c + i) (((lshr j2 ((8 : Int32) * nI i)) &&& (255 : Int64)).toInt32)) (by omega) (by omega) (by
      intro j hj
      by_cases z : j = c + i
      · subst z
        rw [show (200 * 2 + (c + i)) = 200 * 2 + c + i by omega]
        unfold upd
        rw [if_pos rfl, if_pos rfl, pz_b, hb]
      · unfold upd
        rw [if_neg z, if_neg (show ¬ 200 * 2 + j = 200 * 2 + c + i by omega)]
        exact h j (by omega))
    refine ⟨f', g', ?_, ?_, e3, fun j hj => (e4 j hj).trans ?_⟩
    · rw [zf_X_put_L53c_s, if_neg (nI_ge (by omega) (by omega)), pu_add (by omega) (by decide), bc2_e, ← e1]
      simp only [bnd]
      rw [nI_1]
      rfl
    · rw [zf_M_put_L66_s, if_neg (nI_ge (by omega) (by omega)), gd_t (nI_in (by decide) (by decide)), nI_clamp (by omega), hs, pm_off, nI_add, gd_t (nI_in (by omega) (by decide)), nI_clamp (by omega), ← e2]
      simp only [bnd]
      rw [nI_1]
    · unfold upd
      rw [if_neg (by omega)]
theorem st_put {qn : Int32} {qf : Nat → Int32} {sn : Int32} {sf : Nat → Int32} {pn : Int32} {pf mf sz : Nat → Int32} (h : RW qn qf sn sf pn pf mf sz) (i1 : Int32) (j2 : Int64) (i4 : Int32) : (∃ qn' qf' sn' sf' pn' pf' mf' sz', zf_X_put qn qf sn sf pn pf i1 j2 i4 = some (qn', qf', sn', sf', pn', pf') ∧ zf_M_put mf sz i1 j2 i4 = some ((0 : Int32), mf', sz') ∧ RW qn' qf' sn' sf' pn' pf' mf' sz') ∨ (zf_X_put_IA qn sn pn i1 i4 = some () ∧ zf_M_put mf sz i1 j2 i4 = some ((1 : Int32), mf, sz)) ∨ (zf_X_put_IS qn sn pn i1 i4 = some () ∧ zf_M_put mf sz i1 j2 i4 = some ((2 : Int32), mf, sz)) := by
  obtain ⟨⟨c0, k0⟩, ⟨c1, k1⟩, ⟨c2, k2⟩⟩ := h
  rcases row_case i1 with rfl | rfl | rfl | ⟨a0, a1, a2, a3⟩
  · obtain ⟨l1, rfl, l3, l4⟩ := k0
    by_cases g0 : i4 < (1 : Int32)
    · refine Or.inr (Or.inl ⟨?_, mg_putA (r := 0) (by decide) (Or.inl g0)⟩)
      show (if i4 < (1 : Int32) then some () else if i4 ≤ (8 : Int32) then bc1 (zf_R_room (nI c0) 160) fun v1 => if i4 ≤ v1 then none else none else some ()) = some ()
      rw [if_pos g0]
    by_cases g8 : i4 ≤ (8 : Int32)
    · have gn : ¬ i4 < 0 := fun z => g0 (Int32.lt_trans z (by decide))
      obtain ⟨N, hN, rfl⟩ := nI_of2 (n := 8) rfl gn g8
      have hN1 : 1 ≤ N := by
        rcases Nat.eq_zero_or_pos N with z | z
        · subst z
          exact absurd (show nI 0 < (1 : Int32) by decide) g0
        · exact z
      have hr : zf_R_room (nI c0) 160 = some (nI (160 - c0)) := congrArg some (pk_sub (a := 160) l1)
      by_cases hc : c0 + N ≤ 160
      · obtain ⟨f', g', e1, e2, e3, e4⟩ := put_pair0 (j2 := j2) hN hc l3 N 0 1000 qf mf (by omega) (by omega) (fun j hj => (l4 j hj).trans (by unfold rB; rw [if_pos (show j < c0 from hj)]))
        refine Or.inl ⟨(nI (c0 + N)), f', sn, sf, pn, pf, g', upd sz 0 (nI (c0 + N)), ?_, mg_put (r := 0) (by decide) l3 hN1 hN (lim := 160) (by decide) (by decide) hc e2, ⟨c0 + N, by omega, rfl, rfl, fun j hj => (e3 j hj).trans (by unfold rB; rw [if_pos hj])⟩, ⟨c1, R1_k k1 (by decide) rfl (fun j h1 h2 => e4 j (by omega))⟩, ⟨c2, R1_k k2 (by decide) rfl (fun j h1 h2 => e4 j (by omega))⟩⟩
        show (if nI N < (1 : Int32) then none else if nI N ≤ (8 : Int32) then bc1 (zf_R_room (nI c0) 160) fun v1 => if nI N ≤ v1 then bc3 (zf_X_put_L53 j2 (nI N) 1000 (0 : Int32) (nI c0) qf) fun x8 x9 x10 => some (x9, x10, sn, sf, pn, pf) else none else none) = some ((nI (c0 + N)), f', sn, sf, pn, pf)
        rw [if_neg g0, if_pos g8, hr, bc1_e, if_pos (nI_le (by omega) (by omega)), show zf_X_put_L53 j2 (nI N) 1000 (0 : Int32) (nI c0) qf = some (nI N, nI (c0 + N), f') from e1, bc3_e]
      · refine Or.inr (Or.inr ⟨?_, mg_putS (r := 0) (by decide) l3 hN1 hN (lim := 160) (by decide) (by decide) (by omega) (by omega)⟩)
        show (if nI N < (1 : Int32) then none else if nI N ≤ (8 : Int32) then bc1 (zf_R_room (nI c0) 160) fun v1 => if nI N ≤ v1 then none else some () else none) = some ()
        rw [if_neg g0, if_pos g8, hr, bc1_e, if_neg (nI_ge (by omega) (by omega))]
    · refine Or.inr (Or.inl ⟨?_, mg_putA (r := 0) (by decide) (Or.inr g8)⟩)
      show (if i4 < (1 : Int32) then some () else if i4 ≤ (8 : Int32) then bc1 (zf_R_room (nI c0) 160) fun v1 => if i4 ≤ v1 then none else none else some ()) = some ()
      rw [if_neg g0, if_neg g8]
  · obtain ⟨l1, rfl, l3, l4⟩ := k1
    by_cases g0 : i4 < (1 : Int32)
    · refine Or.inr (Or.inl ⟨?_, mg_putA (r := 1) (by decide) (Or.inl g0)⟩)
      show (if i4 < (1 : Int32) then some () else if i4 ≤ (8 : Int32) then bc1 (zf_R_room (nI c1) 200) fun v1 => if i4 ≤ v1 then none else none else some ()) = some ()
      rw [if_pos g0]
    by_cases g8 : i4 ≤ (8 : Int32)
    · have gn : ¬ i4 < 0 := fun z => g0 (Int32.lt_trans z (by decide))
      obtain ⟨N, hN, rfl⟩ := nI_of2 (n := 8) rfl gn g8
      have hN1 : 1 ≤ N := by
        rcases Nat.eq_zero_or_pos N with z | z
        · subst z
          exact absurd (show nI 0 < (1 : Int32) by decide) g0
        · exact z
      have hr : zf_R_room (nI c1) 200 = some (nI (200 - c1)) := congrArg some (pk_sub (a := 200) l1)
      by_cases hc : c1 + N ≤ 200
      · obtain ⟨f', g', e1, e2, e3, e4⟩ := put_pair1 (j2 := j2) hN hc l3 N 0 1000 sf mf (by omega) (by omega) (fun j hj => (l4 j hj).trans (by unfold rB; rw [if_pos (show j < c1 from hj)]))
        refine Or.inl ⟨qn, qf, (nI (c1 + N)), f', pn, pf, g', upd sz 1 (nI (c1 + N)), ?_, mg_put (r := 1) (by decide) l3 hN1 hN (lim := 200) (by decide) (by decide) hc e2, ⟨c0, R1_k k0 (by decide) rfl (fun j h1 h2 => e4 j (by omega))⟩, ⟨c1 + N, by omega, rfl, rfl, fun j hj => (e3 j hj).trans (by unfold rB; rw [if_pos hj])⟩, ⟨c2, R1_k k2 (by decide) rfl (fun j h1 h2 => e4 j (by omega))⟩⟩
        show (if nI N < (1 : Int32) then none else if nI N ≤ (8 : Int32) then bc1 (zf_R_room (nI c1) 200) fun v1 => if nI N ≤ v1 then bc3 (zf_X_put_L53b j2 (nI N) 1000 (0 : Int32) (nI c1) sf) fun x8 x9 x10 => some (qn, qf, x9, x10, pn, pf) else none else none) = some (qn, qf, (nI (c1 + N)), f', pn, pf)
        rw [if_neg g0, if_pos g8, hr, bc1_e, if_pos (nI_le (by omega) (by omega)), show zf_X_put_L53b j2 (nI N) 1000 (0 : Int32) (nI c1) sf = some (nI N, nI (c1 + N), f') from e1, bc3_e]
      · refine Or.inr (Or.inr ⟨?_, mg_putS (r := 1) (by decide) l3 hN1 hN (lim := 200) (by decide) (by decide) (by omega) (by omega)⟩)
        show (if nI N < (1 : Int32) then none else if nI N ≤ (8 : Int32) then bc1 (zf_R_room (nI c1) 200) fun v1 => if nI N ≤ v1 then none else some () else none) = some ()
        rw [if_neg g0, if_pos g8, hr, bc1_e, if_neg (nI_ge (by omega) (by omega))]
    · refine Or.inr (Or.inl ⟨?_, mg_putA (r := 1) (by decide) (Or.inr g8)⟩)
      show (if i4 < (1 : Int32) then some () else if i4 ≤ (8 : Int32) then bc1 (zf_R_room (nI c1) 200) fun v1 => if i4 ≤ v1 then none else none else some ()) = some ()
      rw [if_neg g0, if_neg g8]
  · obtain ⟨l1, rfl, l3, l4⟩ := k2
    by_cases g0 : i4 < (1 : Int32)
    · refine Or.inr (Or.inl ⟨?_, mg_putA (r := 2) (by decide) (Or.inl g0)⟩)
      show (if i4 < (1 : Int32) then some () else if i4 ≤ (8 : Int32) then bc1 (zf_R_room (nI c2) 64) fun v1 => if i4 ≤ v1 then none else none else some ()) = some ()
      rw [if_pos g0]
    by_cases g8 : i4 ≤ (8 : Int32)
    · have gn : ¬ i4 < 0 := fun z => g0 (Int32.lt_trans z (by decide))
      obtain ⟨N, hN, rfl⟩ := nI_of2 (n := 8) rfl gn g8
      have hN1 : 1 ≤ N := by
        rcases Nat.eq_zero_or_pos N with z | z
        · subst z
          exact absurd (show nI 0 < (1 : Int32) by decide) g0
        · exact z
      have hr : zf_R_room (nI c2) 64 = some (nI (64 - c2)) := congrArg some (pk_sub (a := 64) l1)
      by_cases hc : c2 + N ≤ 64
      · obtain ⟨f', g', e1, e2, e3, e4⟩ := put_pair2 (j2 := j2) hN hc l3 N 0 1000 pf mf (by omega) (by omega) (fun j hj => (l4 j hj).trans (by unfold rB; rw [if_pos (show j < c2 from hj)]))
        refine Or.inl ⟨qn, qf, sn, sf, (nI (c2 + N)), f', g', upd sz 2 (nI (c2 + N)), ?_, mg_put (r := 2) (by decide) l3 hN1 hN (lim := 64) (by decide) (by decide) hc e2, ⟨c0, R1_k k0 (by decide) rfl (fun j h1 h2 => e4 j (by omega))⟩, ⟨c1, R1_k k1 (by decide) rfl (fun j h1 h2 => e4 j (by omega))⟩, ⟨c2 + N, by omega, rfl, rfl, fun j hj => (e3 j hj).trans (by unfold rB; rw [if_pos hj])⟩⟩
        show (if nI N < (1 : Int32) then none else if nI N ≤ (8 : Int32) then bc1 (zf_R_room (nI c2) 64) fun v1 => if nI N ≤ v1 then bc3 (zf_X_put_L53c j2 (nI N) 1000 (0 : Int32) (nI c2) pf) fun x8 x9 x10 => some (qn, qf, sn, sf, x9, x10) else none else none) = some (qn, qf, sn, sf, (nI (c2 + N)), f')
        rw [if_neg g0, if_pos g8, hr, bc1_e, if_pos (nI_le (by omega) (by omega)), show zf_X_put_L53c j2 (nI N) 1000 (0 : Int32) (nI c2) pf = some (nI N, nI (c2 + N), f') from e1, bc3_e]
      · refine Or.inr (Or.inr ⟨?_, mg_putS (r := 2) (by decide) l3 hN1 hN (lim := 64) (by decide) (by decide) (by omega) (by omega)⟩)
        show (if nI N < (1 : Int32) then none else if nI N ≤ (8 : Int32) then bc1 (zf_R_room (nI c2) 64) fun v1 => if nI N ≤ v1 then none else some () else none) = some ()
        rw [if_neg g0, if_pos g8, hr, bc1_e, if_neg (nI_ge (by omega) (by omega))]
    · refine Or.inr (Or.inl ⟨?_, mg_putA (r := 2) (by decide) (Or.inr g8)⟩)
      show (if i4 < (1 : Int32) then some () else if i4 ≤ (8 : Int32) then bc1 (zf_R_room (nI c2) 64) fun v1 => if i4 ≤ v1 then none else none else some ()) = some ()
      rw [if_neg g0, if_neg g8]
  · refine Or.inr (Or.inl ⟨?_, ?_⟩)
    · unfold zf_X_put_IA
      rw [if_neg a0, if_neg a1, if_neg a2, xr_IA a0 a1 a2]
      rfl
    · unfold zf_M_put
      rw [a3]
      rfl
