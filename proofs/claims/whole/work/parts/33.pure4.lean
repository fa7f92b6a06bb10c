/-! Pure facts: the packer's loop, class and reference side by side, in both formats. -/
theorem ne_m1 {k : Nat} (h : k < 2 ^ 31) : ¬ nI k = -1 := by
  intro e
  have := nI_pos h
  rw [e] at this
  exact this (by decide)
section HP2
variable {p q : Nat} {pf qf hi : Nat → Int32}
theorem cf_none_S (hp : p ≤ 64) (hq : q ≤ 160) {pl j : Nat} (hl : pl + 12 ≤ q) (hj : j < 32) (ej : slt (h4 (hB p pf q qf) (p + pl)) = nI j) {t1 of : Nat → Int32} {an mt co on : Int32} (hno : t1 j = -1 ∨ ∃ k, k < p + pl ∧ t1 j = nI k ∧ ¬ h4 (hB p pf q qf) k = h4 (hB p pf q qf) (p + pl)) : zf_P_copyFrom_S (nI p) 64 pf (nI q) 160 qf t1 an mt co (nI pl) on 200 of = some ((0 : Int32), an, mt, co, upd t1 j (nI (p + pl)), on, of) := by
  unfold zf_P_copyFrom_S
  simp only [bnd]
  rw [nI_add p pl, pu_exchange hp hq (by decide) (by decide) (by omega) hj ej, bc2_e]
  rcases hno with e | ⟨k, hk, e, g⟩
  · rw [if_pos e]
  · rw [e, if_neg (ne_m1 (by omega)), pu_hintAt hp hq (by decide) (by decide) (by omega), bc1_e, pu_hintAt hp hq (by decide) (by decide) (by omega), bc1_e, if_neg g]
theorem cf_match_S (hp : p ≤ 64) (hq : q ≤ 160) {pl j k m : Nat} (hl : pl + 12 ≤ q) (hj : j < 32) (ej : slt (h4 (hB p pf q qf) (p + pl)) = nI j) {t1 of of2 : Nat → Int32} {an mt co on o2 : Int32} (e : t1 j = nI k) (hk : k < p + pl) (g : h4 (hB p pf q qf) k = h4 (hB p pf q qf) (p + pl)) (hm : zf_P_matchLength (nI p) 64 pf (nI q) 160 qf (nI k) (nI (p + pl)) = some (nI m)) (he : zf_SW_match (nI q) 160 qf on 200 of an (nI pl) (nI (p + pl - k)) (nI m) = some (o2, of2)) : zf_P_copyFrom_S (nI p) 64 pf (nI q) 160 qf t1 an mt co (nI pl) on 200 of = some (nI m, nI (pl + m), mt + 1, co + nI m, upd t1 j (nI (p + pl)), o2, of2) := by
  unfold zf_P_copyFrom_S
  simp only [bnd]
  rw [nI_add p pl, pu_exchange hp hq (by decide) (by decide) (by omega) hj ej, bc2_e]
  rw [e, if_neg (ne_m1 (by omega)), pu_hintAt hp hq (by decide) (by decide) (by omega), bc1_e, pu_hintAt hp hq (by decide) (by decide) (by omega), bc1_e, if_pos g, hm, bc1_e, pk_sub (by omega), he, bc2_e, nI_add pl m]
theorem mo_none_S (hp : p ≤ 64) (hq : q ≤ 160) (hh : ∀ j, j < p + q → hi j = hB p pf q qf j) {pl j n : Nat} (hl : pl + 12 ≤ q) (hj : j < 32) (ej : slt (h4 (hB p pf q qf) (p + pl)) = nI j) {t2 mf : Nat → Int32} {an mt co on : Int32} (hno : t2 j = -1 ∨ ∃ k, k < p + pl ∧ t2 j = nI k ∧ ¬ h4 (hB p pf q qf) k = h4 (hB p pf q qf) (p + pl)) : zf_M_packs_L60 hi (nI (p + q)) (0 : Int32) (n + 1) an (nI (p + pl)) mt co on mf t2 = zf_M_packs_L60 hi (nI (p + q)) (0 : Int32) n an (nI (p + (pl + 1))) mt co on mf (upd t2 j (nI (p + pl))) := by
  have em : nI (p + q) - nI (p + pl) = nI (q - pl) := by rw [pk_sub (by omega)]; congr 1; omega
  have hs : zf_M_slot hi (nI (p + pl)) = some (nI j) := by rw [pm_slot (by omega), h4_congr hh (by omega), ej]
  rw [zf_M_packs_L60_s, em, if_neg (show ¬ nI (q - pl) < (12 : Int32) from nI_nlt (b := 12) (by omega) (by omega)), hs, bc1_e, gd_t (nI_in hj (by omega))]
  simp only [bnd]
  rw [gd_t (nI_in hj (by omega)), nI_clamp (by omega)]
  rcases hno with e | ⟨k, hk, e, g⟩
  · rw [e, if_pos (by decide), bc6_e, nI_1]
    rfl
  · rw [e, if_neg (nI_pos (by omega)), pm_intAt (by omega), bc1_e, pm_intAt (by omega), bc1_e, h4_congr hh (by omega), h4_congr hh (k := p + pl) (by omega), if_neg g, bc6_e, nI_1]
    rfl
theorem mo_match_S (hp : p ≤ 64) (hq : q ≤ 160) (hh : ∀ j, j < p + q → hi j = hB p pf q qf j) {pl j k m n : Nat} (hl : pl + 12 ≤ q) (hj : j < 32) (ej : slt (h4 (hB p pf q qf) (p + pl)) = nI j) {t2 mf mf2 : Nat → Int32} {an mt co on o2 : Int32} (e : t2 j = nI k) (hk : k < p + pl) (g : h4 (hB p pf q qf) k = h4 (hB p pf q qf) (p + pl)) (hm : zf_M_same hi (nI (p + q)) (nI k) (nI (p + pl)) = some (nI m)) (he : zf_M_sequence mf hi on an (nI (p + pl)) (nI m) (nI (p + pl - k)) = some (o2, mf2)) : zf_M_packs_L60 hi (nI (p + q)) (0 : Int32) (n + 1) an (nI (p + pl)) mt co on mf t2 = zf_M_packs_L60 hi (nI (p + q)) (0 : Int32) n (nI (p + (pl + m))) (nI (p + (pl + m))) (mt + 1) (co + nI m) o2 mf2 (upd t2 j (nI (p + pl))) := by
  have em : nI (p + q) - nI (p + pl) = nI (q - pl) := by rw [pk_sub (by omega)]; congr 1; omega
  have hs : zf_M_slot hi (nI (p + pl)) = some (nI j) := by rw [pm_slot (by omega), h4_congr hh (by omega), ej]
  rw [zf_M_packs_L60_s, em, if_neg (show ¬ nI (q - pl) < (12 : Int32) from nI_nlt (b := 12) (by omega) (by omega)), hs, bc1_e, gd_t (nI_in hj (by omega))]
  simp only [bnd, bc2_id]
  rw [gd_t (nI_in hj (by omega)), nI_clamp (by omega), e, if_neg (nI_pos (by omega)), pm_intAt (by omega), bc1_e, pm_intAt (by omega), bc1_e, h4_congr hh (by omega), h4_congr hh (k := p + pl) (by omega), if_pos g, hm, bc1_e, pk_sub (by omega), if_pos trivial, he, bc2_e, bc6_e, nI_add (p + pl) m, show p + pl + m = p + (pl + m) by omega]
theorem pk_S (hp : p ≤ 64) (hq : q ≤ 160) (hh : ∀ j, j < p + q → hi j = hB p pf q qf j) : ∀ (d pl a o n : Nat) (mt co : Int32) (t1 t2 of mf : Nat → Int32), q ≤ pl + d → d < n → a ≤ pl → pl ≤ q → o ≤ a → TT t1 t2 → TV (p + pl) t1 → RO o of mf → ∃ (pl' a' o' : Nat) (mt' co' : Int32) (t1' t2' of' mf' : Nat → Int32), zf_P_run_S_L25 (nI p) 64 pf (nI q) 160 qf 200 n (nI pl) (nI a) mt co t1 (nI o) of = some (nI pl', nI a', mt', co', t1', nI o', of') ∧ zf_M_packs_L60 hi (nI (p + q)) (0 : Int32) n (nI (p + a)) (nI (p + pl)) mt co (nI o) mf t2 = some (nI (p + a'), nI (p + pl'), mt', co', nI o', mf', t2') ∧ a' ≤ q ∧ o' ≤ a' ∧ RO o' of' mf' ∧ KO mf mf'
  | d, pl, a, o, n + 1, mt, co, t1, t2, of, mf, hd, hn, ha, hpl, ho, ht, hv, h => by
    have em : nI (p + q) - nI (p + pl) = nI (q - pl) := by rw [pk_sub (by omega)]; congr 1; omega
    by_cases c : q < pl + 12
    · refine ⟨pl, a, o, mt, co, t1, t2, of, mf, ?_, ?_, by omega, ho, h, KO_r mf⟩
      · rw [zf_P_run_S_L25_s, show nI pl + (12 : Int32) = nI (pl + 12) from nI_add pl 12, if_pos (nI_lt c (by omega))]
      · rw [zf_M_packs_L60_s, em, if_pos (show nI (q - pl) < (12 : Int32) from nI_lt (b := 12) (by omega) (by decide))]
    · match d, hd, hn with
      | 0, hd, hn => omega
      | d + 1, hd, hn =>
        obtain ⟨j, hj, ej⟩ := slt_lt (h4 (hB p pf q qf) (p + pl))
        by_cases hno : t1 j = -1 ∨ ∃ k, k < p + pl ∧ t1 j = nI k ∧ ¬ h4 (hB p pf q qf) k = h4 (hB p pf q qf) (p + pl)
        · obtain ⟨pl', a', o', mt', co', t1', t2', of', mf', e1, e2, r⟩ := pk_S hp hq hh d (pl + 1) a o n mt co (upd t1 j (nI (p + pl))) (upd t2 j (nI (p + pl))) of mf (by omega) (by omega) (by omega) (by omega) ho (TT_upd ht) (TV_upd (by omega) hv) h
          refine ⟨pl', a', o', mt', co', t1', t2', of', mf', ?_, ?_, r⟩
          · rw [zf_P_run_S_L25_s, show nI pl + (12 : Int32) = nI (pl + 12) from nI_add pl 12, if_neg (nI_nlt (by omega) (by omega)), cf_none_S hp hq (by omega) hj ej hno, bc7_e]
            simp only [bnd]
            rw [if_neg (by decide), nI_1, e1]
          · rw [mo_none_S hp hq hh (by omega) hj ej (by rw [← ht j hj]; exact hno), e2]
        · rcases hv j hj with e0 | ⟨k, hk, e0⟩
          · exact absurd (Or.inl e0) hno
          · by_cases g : h4 (hB p pf q qf) k = h4 (hB p pf q qf) (p + pl)
            · obtain ⟨m, m4, ml, f1, f2⟩ := ml_all hp hq hh hk (by omega) g
              have hhq : ∀ j, j < q → hi (p + j) = rB qf q j := fun j hj => by rw [hh (p + j) (by omega)]; unfold hB; rw [if_neg (by omega)]; congr 1; omega
              have c1' := cs_le (pl - a)
              have c2' : cs (m - 4) + 4 ≤ m := by unfold cs; split <;> omega
              obtain ⟨of1, mf1, x1, x2, r1, k1⟩ := ep_seq (t := p + pl - k) (m := m) hq hp hhq (by omega : pl ≤ q) ha m4 (by omega) (by omega : o + (3 + cs (pl - a) + (pl - a) + cs (m - 4)) ≤ 200) h
              obtain ⟨pl', a', o', mt', co', t1', t2', of', mf', e1, e2, b1, b2, b3, b4⟩ := pk_S hp hq hh d (pl + m) (pl + m) (o + (3 + cs (pl - a) + (pl - a) + cs (m - 4))) n (mt + 1) (co + nI m) (upd t1 j (nI (p + pl))) (upd t2 j (nI (p + pl))) of1 mf1 (by omega) (by omega) (by omega) (by omega) (by omega) (TT_upd ht) (TV_upd (by omega) hv) r1
              refine ⟨pl', a', o', mt', co', t1', t2', of', mf', ?_, ?_, b1, b2, b3, KO_t k1 b4⟩
              · rw [zf_P_run_S_L25_s, show nI pl + (12 : Int32) = nI (pl + 12) from nI_add pl 12, if_neg (nI_nlt (by omega) (by omega)), cf_match_S hp hq (by omega) hj ej e0 hk g f1 x1, bc7_e]
                simp only [bnd]
                rw [if_pos (show (1 : Int32) < nI m from nI_lt (a := 1) (by omega) (by omega)), nI_add pl m, e1]
              · rw [mo_match_S hp hq hh (by omega) hj ej ((ht j hj).symm.trans e0) hk g f2 x2, e2]
            · exact absurd (Or.inr ⟨k, hk, e0, g⟩) hno
theorem cf_none_E (hp : p ≤ 64) (hq : q ≤ 160) {pl j : Nat} (hl : pl + 12 ≤ q) (hj : j < 32) (ej : slt (h4 (hB p pf q qf) (p + pl)) = nI j) {t1 of : Nat → Int32} {an mt co on : Int32} (hno : t1 j = -1 ∨ ∃ k, k < p + pl ∧ t1 j = nI k ∧ ¬ h4 (hB p pf q qf) k = h4 (hB p pf q qf) (p + pl)) : zf_P_copyFrom_E (nI p) 64 pf (nI q) 160 qf t1 an mt co (nI pl) on 200 of = some ((0 : Int32), an, mt, co, upd t1 j (nI (p + pl)), on, of) := by
  unfold zf_P_copyFrom_E
  simp only [bnd]
  rw [nI_add p pl, pu_exchange hp hq (by decide) (by decide) (by omega) hj ej, bc2_e]
  rcases hno with e | ⟨k, hk, e, g⟩
  · rw [if_pos e]
  · rw [e, if_neg (ne_m1 (by omega)), pu_hintAt hp hq (by decide) (by decide) (by omega), bc1_e, pu_hintAt hp hq (by decide) (by decide) (by omega), bc1_e, if_neg g]
theorem cf_match_E (hp : p ≤ 64) (hq : q ≤ 160) {pl j k m : Nat} (hl : pl + 12 ≤ q) (hj : j < 32) (ej : slt (h4 (hB p pf q qf) (p + pl)) = nI j) {t1 of of2 : Nat → Int32} {an mt co on o2 : Int32} (e : t1 j = nI k) (hk : k < p + pl) (g : h4 (hB p pf q qf) k = h4 (hB p pf q qf) (p + pl)) (hm : zf_P_matchLength (nI p) 64 pf (nI q) 160 qf (nI k) (nI (p + pl)) = some (nI m)) (he : zf_EW_match (nI q) 160 qf on 200 of an (nI pl) (nI (p + pl - k)) (nI m) = some (o2, of2)) : zf_P_copyFrom_E (nI p) 64 pf (nI q) 160 qf t1 an mt co (nI pl) on 200 of = some (nI m, nI (pl + m), mt + 1, co + nI m, upd t1 j (nI (p + pl)), o2, of2) := by
  unfold zf_P_copyFrom_E
  simp only [bnd]
  rw [nI_add p pl, pu_exchange hp hq (by decide) (by decide) (by omega) hj ej, bc2_e]
  rw [e, if_neg (ne_m1 (by omega)), pu_hintAt hp hq (by decide) (by decide) (by omega), bc1_e, pu_hintAt hp hq (by decide) (by decide) (by omega), bc1_e, if_pos g, hm, bc1_e, pk_sub (by omega), he, bc2_e, nI_add pl m]
theorem mo_none_E (hp : p ≤ 64) (hq : q ≤ 160) (hh : ∀ j, j < p + q → hi j = hB p pf q qf j) {pl j n : Nat} (hl : pl + 12 ≤ q) (hj : j < 32) (ej : slt (h4 (hB p pf q qf) (p + pl)) = nI j) {t2 mf : Nat → Int32} {an mt co on : Int32} (hno : t2 j = -1 ∨ ∃ k, k < p + pl ∧ t2 j = nI k ∧ ¬ h4 (hB p pf q qf) k = h4 (hB p pf q qf) (p + pl)) : zf_M_packs_L60 hi (nI (p + q)) (1 : Int32) (n + 1) an (nI (p + pl)) mt co on mf t2 = zf_M_packs_L60 hi (nI (p + q)) (1 : Int32) n an (nI (p + (pl + 1))) mt co on mf (upd t2 j (nI (p + pl))) := by
  have em : nI (p + q) - nI (p + pl) = nI (q - pl) := by rw [pk_sub (by omega)]; congr 1; omega
  have hs : zf_M_slot hi (nI (p + pl)) = some (nI j) := by rw [pm_slot (by omega), h4_congr hh (by omega), ej]
  rw [zf_M_packs_L60_s, em, if_neg (show ¬ nI (q - pl) < (12 : Int32) from nI_nlt (b := 12) (by omega) (by omega)), hs, bc1_e, gd_t (nI_in hj (by omega))]
  simp only [bnd]
  rw [gd_t (nI_in hj (by omega)), nI_clamp (by omega)]
  rcases hno with e | ⟨k, hk, e, g⟩
  · rw [e, if_pos (by decide), bc6_e, nI_1]
    rfl
  · rw [e, if_neg (nI_pos (by omega)), pm_intAt (by omega), bc1_e, pm_intAt (by omega), bc1_e, h4_congr hh (by omega), h4_congr hh (k := p + pl) (by omega), if_neg g, bc6_e, nI_1]
    rfl
theorem mo_match_E (hp : p ≤ 64) (hq : q ≤ 160) (hh : ∀ j, j < p + q → hi j = hB p pf q qf j) {pl j k m n : Nat} (hl : pl + 12 ≤ q) (hj : j < 32) (ej : slt (h4 (hB p pf q qf) (p + pl)) = nI j) {t2 mf mf2 : Nat → Int32} {an mt co on o2 : Int32} (e : t2 j = nI k) (hk : k < p + pl) (g : h4 (hB p pf q qf) k = h4 (hB p pf q qf) (p + pl)) (hm : zf_M_same hi (nI (p + q)) (nI k) (nI (p + pl)) = some (nI m)) (he : (bc2 (zf_M_literalElement mf hi on an (nI (p + pl))) fun v37 v38 => zf_M_copyElements v38 v37 (nI m) (nI (p + pl - k))) = some (o2, mf2)) : zf_M_packs_L60 hi (nI (p + q)) (1 : Int32) (n + 1) an (nI (p + pl)) mt co on mf t2 = zf_M_packs_L60 hi (nI (p + q)) (1 : Int32) n (nI (p + (pl + m))) (nI (p + (pl + m))) (mt + 1) (co + nI m) o2 mf2 (upd t2 j (nI (p + pl))) := by
  have em : nI (p + q) - nI (p + pl) = nI (q - pl) := by rw [pk_sub (by omega)]; congr 1; omega
  have hs : zf_M_slot hi (nI (p + pl)) = some (nI j) := by rw [pm_slot (by omega), h4_congr hh (by omega), ej]
  rw [zf_M_packs_L60_s, em, if_neg (show ¬ nI (q - pl) < (12 : Int32) from nI_nlt (b := 12) (by omega) (by omega)), hs, bc1_e, gd_t (nI_in hj (by omega))]
  simp only [bnd, bc2_id]
  rw [gd_t (nI_in hj (by omega)), nI_clamp (by omega), e, if_neg (nI_pos (by omega)), pm_intAt (by omega), bc1_e, pm_intAt (by omega), bc1_e, h4_congr hh (by omega), h4_congr hh (k := p + pl) (by omega), if_pos g, hm, bc1_e, pk_sub (by omega), if_neg (by decide), he, bc2_e, bc6_e, nI_add (p + pl) m, show p + pl + m = p + (pl + m) by omega]
theorem pk_E (hp : p ≤ 64) (hq : q ≤ 160) (hh : ∀ j, j < p + q → hi j = hB p pf q qf j) : ∀ (d pl a o n : Nat) (mt co : Int32) (t1 t2 of mf : Nat → Int32), q ≤ pl + d → d < n → a ≤ pl → pl ≤ q → o ≤ a + 2 → TT t1 t2 → TV (p + pl) t1 → RO o of mf → ∃ (pl' a' o' : Nat) (mt' co' : Int32) (t1' t2' of' mf' : Nat → Int32), zf_P_run_E_L25 (nI p) 64 pf (nI q) 160 qf 200 n (nI pl) (nI a) mt co t1 (nI o) of = some (nI pl', nI a', mt', co', t1', nI o', of') ∧ zf_M_packs_L60 hi (nI (p + q)) (1 : Int32) n (nI (p + a)) (nI (p + pl)) mt co (nI o) mf t2 = some (nI (p + a'), nI (p + pl'), mt', co', nI o', mf', t2') ∧ a' ≤ q ∧ o' ≤ a' + 2 ∧ RO o' of' mf' ∧ KO mf mf'
  | d, pl, a, o, n + 1, mt, co, t1, t2, of, mf, hd, hn, ha, hpl, ho, ht, hv, h => by
    have em : nI (p + q) - nI (p + pl) = nI (q - pl) := by rw [pk_sub (by omega)]; congr 1; omega
    by_cases c : q < pl + 12
    · refine ⟨pl, a, o, mt, co, t1, t2, of, mf, ?_, ?_, by omega, ho, h, KO_r mf⟩
      · rw [zf_P_run_E_L25_s, show nI pl + (12 : Int32) = nI (pl + 12) from nI_add pl 12, if_pos (nI_lt c (by omega))]
      · rw [zf_M_packs_L60_s, em, if_pos (show nI (q - pl) < (12 : Int32) from nI_lt (b := 12) (by omega) (by decide))]
    · match d, hd, hn with
      | 0, hd, hn => omega
      | d + 1, hd, hn =>
        obtain ⟨j, hj, ej⟩ := slt_lt (h4 (hB p pf q qf) (p + pl))
        by_cases hno : t1 j = -1 ∨ ∃ k, k < p + pl ∧ t1 j = nI k ∧ ¬ h4 (hB p pf q qf) k = h4 (hB p pf q qf) (p + pl)
        · obtain ⟨pl', a', o', mt', co', t1', t2', of', mf', e1, e2, r⟩ := pk_E hp hq hh d (pl + 1) a o n mt co (upd t1 j (nI (p + pl))) (upd t2 j (nI (p + pl))) of mf (by omega) (by omega) (by omega) (by omega) ho (TT_upd ht) (TV_upd (by omega) hv) h
          refine ⟨pl', a', o', mt', co', t1', t2', of', mf', ?_, ?_, r⟩
          · rw [zf_P_run_E_L25_s, show nI pl + (12 : Int32) = nI (pl + 12) from nI_add pl 12, if_neg (nI_nlt (by omega) (by omega)), cf_none_E hp hq (by omega) hj ej hno, bc7_e]
            simp only [bnd]
            rw [if_neg (by decide), nI_1, e1]
          · rw [mo_none_E hp hq hh (by omega) hj ej (by rw [← ht j hj]; exact hno), e2]
        · rcases hv j hj with e0 | ⟨k, hk, e0⟩
          · exact absurd (Or.inl e0) hno
          · by_cases g : h4 (hB p pf q qf) k = h4 (hB p pf q qf) (p + pl)
            · obtain ⟨m, m4, ml, f1, f2⟩ := ml_all hp hq hh hk (by omega) g
              have hhq : ∀ j, j < q → hi (p + j) = rB qf q j := fun j hj => by rw [hh (p + j) (by omega)]; unfold hB; rw [if_neg (by omega)]; congr 1; omega
              obtain ⟨o1, ho1, of1, mf1, x1, x2, r1, k1⟩ := ep_matchE (t := p + pl - k) (m := m) hq hp hhq (by omega : pl ≤ q) ha m4 (by omega) (by omega) (by omega : o + (pl - a) + m ≤ 200) h
              obtain ⟨pl', a', o', mt', co', t1', t2', of', mf', e1, e2, b1, b2, b3, b4⟩ := pk_E hp hq hh d (pl + m) (pl + m) o1 n (mt + 1) (co + nI m) (upd t1 j (nI (p + pl))) (upd t2 j (nI (p + pl))) of1 mf1 (by omega) (by omega) (by omega) (by omega) (by omega) (TT_upd ht) (TV_upd (by omega) hv) r1
              refine ⟨pl', a', o', mt', co', t1', t2', of', mf', ?_, ?_, b1, b2, b3, KO_t k1 b4⟩
              · rw [zf_P_run_E_L25_s, show nI pl + (12 : Int32) = nI (pl + 12) from nI_add pl 12, if_neg (nI_nlt (by omega) (by omega)), cf_match_E hp hq (by omega) hj ej e0 hk g f1 x1, bc7_e]
                simp only [bnd]
                rw [if_pos (show (1 : Int32) < nI m from nI_lt (a := 1) (by omega) (by omega)), nI_add pl m, e1]
              · rw [mo_match_E hp hq hh (by omega) hj ej ((ht j hj).symm.trans e0) hk g f2 x2, e2]
            · exact absurd (Or.inr ⟨k, hk, e0, g⟩) hno
end HP2
