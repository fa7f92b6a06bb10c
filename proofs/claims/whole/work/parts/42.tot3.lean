/-! Pure: the calls' totals: pack, unpack. -/
theorem rem_loop {p : Nat} (hp : p ≤ 64) {mf : Nat → Int32} : ∀ (d i n : Nat) (h : Nat → Int32), i + d = p → d < n → (∀ j, j < i → h j = mf (400 + j)) → ∃ h', zf_M_remembers_L12 mf (nI p) n (nI i) h = some (nI p, h') ∧ (∀ j, j < p → h' j = mf (400 + j))
  | 0, i, n + 1, h, hd, hn, hh => by
    have e : i = p := by omega
    subst e
    exact ⟨h, by rw [zf_M_remembers_L12_s, if_pos (nI_le (by omega) (by omega))], hh⟩
  | d + 1, i, n + 1, h, hd, hn, hh => by
    obtain ⟨h', e1, e2⟩ := rem_loop hp d (i + 1) n (upd h i (mf (400 + i))) (by omega) (by omega) (by
      intro j hj
      unfold upd
      by_cases z : j = i
      · subst z
        rw [if_pos rfl]
      · rw [if_neg z]
        exact hh j (by omega))
    refine ⟨h', ?_, e2⟩
    rw [zf_M_remembers_L12_s, if_neg (nI_ge (by omega) (by omega)), show (400 : Int32) + nI i = nI (400 + i) from nI_add 400 i, gd_t (nI_in (by omega) (by decide)), gd_t (nI_in (by omega) (by decide)), nI_clamp (by omega), nI_clamp (by omega), ← e1]
    simp only [bnd]
    rw [nI_1]
theorem rem_all {p : Nat} (hp : p ≤ 64) {pf mf sz : Nat → Int32} (hs : sz 2 = nI p) (hr : RR p pf mf 2) (hi : Nat → Int32) : ∃ h', zf_M_remembers mf sz hi = some (nI p, nI p, h') ∧ (∀ j, j < p → h' j = rB pf p j) := by
  obtain ⟨h', e1, e2⟩ := rem_loop hp (mf := mf) p 0 1000 hi (by omega) (by omega) (fun j hj => absurd hj (Nat.not_lt_zero j))
  refine ⟨h', ?_, fun j hj => (e2 j hj).trans (hr j hj)⟩
  have e0 : sz (Int32.toNatClampNeg (2 : Int32)) = nI p := hs
  have e3 : zf_M_remembers_L12 mf (nI p) 1000 (0 : Int32) hi = some (nI p, h') := e1
  unfold zf_M_remembers
  rw [gd_t (by decide), e0]
  simp only [bnd]
  rw [e3, bc2_e]
theorem his_loop {p q : Nat} (hp : p ≤ 64) (hq : q ≤ 160) {pf qf mf sz : Nat → Int32} (hs : sz 0 = nI q) (hr : RR q qf mf 0) : ∀ (d i n : Nat) (h : Nat → Int32), i + d = q → d < n → (∀ j, j < p + i → h j = hB p pf q qf j) → ∃ h', zf_M_pack_L30 mf sz (nI p) n (nI i) h = some (nI q, h') ∧ (∀ j, j < p + q → h' j = hB p pf q qf j)
  | 0, i, n + 1, h, hd, hn, hh => by
    have e : i = q := by omega
    subst e
    have e0 : sz (Int32.toNatClampNeg (0 : Int32)) = nI i := hs
    exact ⟨h, by rw [zf_M_pack_L30_s, gd_t (by decide), e0, if_pos (nI_le (by omega) (by omega))], hh⟩
  | d + 1, i, n + 1, h, hd, hn, hh => by
    have e0 : sz (Int32.toNatClampNeg (0 : Int32)) = nI q := hs
    obtain ⟨h', e1, e2⟩ := his_loop hp hq hs hr d (i + 1) n (upd h (p + i) (mf i)) (by omega) (by omega) (by
      intro j hj
      unfold upd
      by_cases z : j = p + i
      · subst z
        rw [if_pos rfl]
        unfold hB
        rw [if_neg (by omega), show p + i - p = i by omega]
        have := hr i (by omega)
        rw [show 200 * 0 + i = i by omega] at this
        exact this
      · rw [if_neg z]
        exact hh j (by omega))
    refine ⟨h', ?_, e2⟩
    rw [zf_M_pack_L30_s, gd_t (by decide), e0, if_neg (nI_ge (by omega) (by omega)), gd_t (nI_in (by omega) (by decide)), nI_add, gd_t (nI_in (by omega) (by decide)), nI_clamp (by omega), nI_clamp (by omega), ← e1]
    simp only [bnd]
    rw [nI_1]
theorem his_all {p q : Nat} (hp : p ≤ 64) (hq : q ≤ 160) {pf qf mf sz : Nat → Int32} (hs : sz 0 = nI q) (hr : RR q qf mf 0) {h : Nat → Int32} (hh : ∀ j, j < p → h j = rB pf p j) : ∃ h', zf_M_pack_L30 mf sz (nI p) 1000 (0 : Int32) h = some (nI q, h') ∧ (∀ j, j < p + q → h' j = hB p pf q qf j) :=
  his_loop hp hq hs hr q 0 1000 h (by omega) (by omega) (fun j hj => by
    unfold hB
    rw [if_pos (show j < p by omega)]
    exact hh j (by omega))
theorem hB_q {p q : Nat} {pf qf h : Nat → Int32} (hh : ∀ j, j < p + q → h j = hB p pf q qf j) : ∀ j, j < q → h (p + j) = rB qf q j := by
  intro j hj
  rw [hh (p + j) (by omega)]
  unfold hB
  rw [if_neg (by omega), show p + j - p = j by omega]
theorem learn_pair {p q : Nat} {pf qf hi : Nat → Int32} (hp : p ≤ 64) (hq : q ≤ 160) (hh : ∀ j, j < p + q → hi j = hB p pf q qf j) (tf tb : Nat → Int32) : ∃ (t1 t2 tb1 : Nat → Int32) (x : Int32), zf_P_learnPast (nI p) 64 pf (nI q) 160 qf tf = some t1 ∧ zf_M_packs_L2 1000 (0 : Int32) tb = some (nI 32, tb1) ∧ zf_M_packs_L23 hi (nI p) 1000 (0 : Int32) tb1 = some (x, t2) ∧ TT t1 t2 ∧ TV p t1 := by
  obtain ⟨a, a1, a2, _⟩ := tb_class 32 0 1000 tf rfl (by decide)
  obtain ⟨b, b1, b2, _⟩ := tb_model 32 0 1000 tb rfl (by decide)
  obtain ⟨i, t1, t2, e1, e2, e3, e4⟩ := ln_pair hp hq hh p 0 1000 a b (by omega) (by omega) (by omega) (fun j hj => (a2 j (by omega) hj).trans (b2 j (by omega) hj).symm) (fun j hj => Or.inl (a2 j (by omega) hj))
  have a1' : zf_P_learnPast_L2 1000 (0 : Int32) tf = some (nI 32, a) := a1
  have e1' : zf_P_learnPast_L26 (nI p) 64 pf (nI q) 160 qf 1000 (0 : Int32) a = some (nI i, t1) := e1
  refine ⟨t1, t2, b, nI i, ?_, b1, e2, e3, e4⟩
  unfold zf_P_learnPast
  rw [a1', bc2_e, e1', bc2_e]
theorem fmt_case (i : Int32) : i = 0 ∨ i = (1 : Int32) ∨ (¬ i = 0 ∧ ¬ i = (1 : Int32) ∧ zf_X_requireFormat_IA i = some ()) := by
  by_cases h0 : i = 0
  · exact Or.inl h0
  by_cases h1 : i = (1 : Int32)
  · exact Or.inr (Or.inl h1)
  refine Or.inr (Or.inr ⟨h0, h1, ?_⟩)
  unfold zf_X_requireFormat_IA
  by_cases g : i < 0
  · rw [if_pos g]
  · rw [if_neg g]
    by_cases g2 : i ≤ (1 : Int32)
    · obtain ⟨N, hN, rfl⟩ := nI_of2 (n := 1) rfl g g2
      rcases (show N = 0 ∨ N = 1 by omega) with rfl | rfl
      · exact absurd rfl h0
      · exact absurd rfl h1
    · rw [if_neg g2]
theorem pack_S {p q : Nat} {pf qf sf mf hi : Nat → Int32} (hp : p ≤ 64) (hq : q ≤ 160) (hh : ∀ j, j < p + q → hi j = hB p pf q qf j) (tf tb : Nat → Int32) : ∃ (o : Nat) (an mt co : Int32) (t1 t2 of' mf' : Nat → Int32), zf_P_run_S (nI p) 64 pf (nI q) 160 qf tf 200 sf = some (an, mt, co, t1, nI o, of') ∧ zf_M_packs mf (0 : Int32) (0 : Int32) hi (nI p) (nI (p + q)) tb (0 : Int32) (0 : Int32) = some (mt, co, nI o, mf', t2) ∧ o ≤ 200 ∧ RO o of' mf' ∧ KO mf mf' := by
  obtain ⟨t1, t2, tb1, x, l1, l2, l3, l4, l5⟩ := learn_pair hp hq hh tf tb
  obtain ⟨pl, a, o, mt, co, t1', t2', of1, mf1, e1, e2, e3, e4, e5, e6⟩ := pk_S hp hq hh q 0 0 0 1000 (0 : Int32) (0 : Int32) t1 t2 sf mf (by omega) (by omega) (by omega) (by omega) (by omega) l4 (by simpa using l5) (fun j hj => absurd hj (Nat.not_lt_zero j))
  have hcs := cs_le (q - a)
  obtain ⟨of2, mf2, f1, f2, f3, f4⟩ := ep_last hq hp (hB_q hh) e3 (by omega) e5
  have e1' : zf_P_run_S_L25 (nI p) 64 pf (nI q) 160 qf 200 1000 (0 : Int32) (0 : Int32) (0 : Int32) (0 : Int32) t1 (0 : Int32) sf = some (nI pl, nI a, mt, co, t1', nI o, of1) := e1
  have e2' : zf_M_packs_L60 hi (nI (p + q)) (0 : Int32) 1000 (nI p) (nI p) (0 : Int32) (0 : Int32) (0 : Int32) mf t2 = some (nI (p + a), nI (p + pl), mt, co, nI o, mf1, t2') := e2
  refine ⟨_, nI a, mt, co, t1', t2', of2, mf2, ?_, ?_, ?_, f3, KO_t e6 f4⟩
  · unfold zf_P_run_S
    rw [l1, bc1_e, show zf_SW_begin = some (0 : Int32) from rfl, bc1_e, e1', bc7_e, f1, bc2_e]
  · unfold zf_M_packs
    rw [l2, bc2_e, l3, bc2_e, e2', bc7_e, if_pos rfl, f2, bc2_e]
  · omega
theorem ush7 : ∀ q < 161, ush (nI q) (7 : Int32) = nI q >>> ((7 : Int32) &&& 31) := by decide +kernel
theorem ush7b : ∀ q < 161, ush (nI q) (7 : Int32) ≤ (127 : Int32) := by decide +kernel
theorem begin_pair {q : Nat} (hq : q ≤ 160) (sf mf : Nat → Int32) : ∃ (o : Nat) (of1 mf1 : Nat → Int32), o ≤ 2 ∧ zf_EW_begin (nI q) 200 sf = some (nI o, of1) ∧ (bc1 (if (128 : Int32) ≤ nI q then some ((nI q &&& (127 : Int32)) ||| (128 : Int32)) else some (nI q)) fun u18 => bc2 (zf_M_emit mf (0 : Int32) u18) fun v19 v20 => if nI q ≤ (127 : Int32) then some (nI q, v19, v20) else bc2 (zf_M_emit v20 v19 (nI q >>> ((7 : Int32) &&& 31))) fun v21 v22 => some (nI q, v21, v22)) = some (nI q, nI o, mf1) ∧ RO o of1 mf1 ∧ KO mf mf1 := by
  have r0 : RO 0 sf mf := fun j hj => absurd hj (Nat.not_lt_zero j)
  by_cases g : q ≤ 127
  · obtain ⟨of1, mf1, e1, e2, e3, e4⟩ := ep_add (b := nI q) (b' := nI q) (by decide) r0 rfl
    have e1' : zf_R_add (0 : Int32) 200 sf (nI q) = some (nI 1, of1) := e1
    have e2' : zf_M_emit mf (0 : Int32) (nI q) = some (nI 1, mf1) := e2
    have g1 : nI q ≤ (127 : Int32) := nI_le (b := 127) g (by decide)
    refine ⟨1, of1, mf1, by decide, ?_, ?_, e3, e4⟩
    · unfold zf_EW_begin
      rw [show zf_R_clear = some (0 : Int32) from rfl, bc1_e, show zf_EW_begin_L15 200 1000 (nI q) (0 : Int32) sf = some (nI q, (0 : Int32), sf) from (zf_EW_begin_L15_s 200 999 (nI q) (0 : Int32) sf).trans (if_pos g1), bc3_e, e1', bc2_e]
    · rw [if_neg (show ¬ (128 : Int32) ≤ nI q from nI_ge (b := 128) (by omega) (by decide)), bc1_e, e2', bc2_e, if_pos g1]
  · obtain ⟨of1, mf1, e1, e2, e3, e4⟩ := ep_add (b := (nI q &&& (127 : Int32)) ||| (128 : Int32)) (b' := (nI q &&& (127 : Int32)) ||| (128 : Int32)) (by decide) r0 rfl
    have e1' : zf_R_add (0 : Int32) 200 sf ((nI q &&& (127 : Int32)) ||| (128 : Int32)) = some (nI 1, of1) := e1
    have e2' : zf_M_emit mf (0 : Int32) ((nI q &&& (127 : Int32)) ||| (128 : Int32)) = some (nI 1, mf1) := e2
    obtain ⟨of2, mf2, k1, k2, k3, k4⟩ := ep_add (o := 1) (b := ush (nI q) (7 : Int32)) (b' := nI q >>> ((7 : Int32) &&& 31)) (by decide) e3 (by rw [ush7 q (by omega)])
    have g1 : ¬ nI q ≤ (127 : Int32) := nI_ge (a := 127) (by omega) (by omega)
    refine ⟨2, of2, mf2, by decide, ?_, ?_, k3, KO_t e4 k4⟩
    · unfold zf_EW_begin
      have b1 : zf_EW_begin_L15 200 1000 (nI q) (0 : Int32) sf = some (ush (nI q) (7 : Int32), nI 1, of1) := by
        rw [zf_EW_begin_L15_s 200 999, if_neg g1, e1', bc2_e]
        simp only [bnd]
        rw [zf_EW_begin_L15_s 200 998, if_pos (ush7b q (by omega))]
      rw [show zf_R_clear = some (0 : Int32) from rfl, bc1_e, b1, bc3_e, k1, bc2_e]
    · rw [if_pos (show (128 : Int32) ≤ nI q from nI_le (a := 128) (by omega) (by omega)), bc1_e, e2', bc2_e, if_neg g1, k2, bc2_e]
theorem pack_E {p q : Nat} {pf qf sf mf hi : Nat → Int32} (hp : p ≤ 64) (hq : q ≤ 160) (hh : ∀ j, j < p + q → hi j = hB p pf q qf j) (tf tb : Nat → Int32) : ∃ (o o1 : Nat) (an mt co : Int32) (t1 t2 of' mf' mf1 : Nat → Int32), zf_P_run_E (nI p) 64 pf (nI q) 160 qf tf 200 sf = some (an, mt, co, t1, nI o, of') ∧ (bc1 (if (128 : Int32) ≤ nI q then some ((nI q &&& (127 : Int32)) ||| (128 : Int32)) else some (nI q)) fun u18 => bc2 (zf_M_emit mf (0 : Int32) u18) fun v19 v20 => if nI q ≤ (127 : Int32) then some (nI q, v19, v20) else bc2 (zf_M_emit v20 v19 (nI q >>> ((7 : Int32) &&& 31))) fun v21 v22 => some (nI q, v21, v22)) = some (nI q, nI o1, mf1) ∧ zf_M_packs mf1 (0 : Int32) (0 : Int32) hi (nI p) (nI (p + q)) tb (nI o1) (1 : Int32) = some (mt, co, nI o, mf', t2) ∧ o ≤ 200 ∧ RO o of' mf' ∧ KO mf mf' := by
  obtain ⟨t1, t2, tb1, x, l1, l2, l3, l4, l5⟩ := learn_pair hp hq hh tf tb
  obtain ⟨o1, of1, mf1, b1, b2, b3, b4, b5⟩ := begin_pair hq sf mf
  obtain ⟨pl, a, o, mt, co, t1', t2', of2, mf2, e1, e2, e3, e4, e5, e6⟩ := pk_E hp hq hh q 0 0 o1 1000 (0 : Int32) (0 : Int32) t1 t2 of1 mf1 (by omega) (by omega) (by omega) (by omega) (by omega) l4 (by simpa using l5) b4
  have hce := ce_le (q - a)
  obtain ⟨of3, mf3, f1, f2, f3, f4⟩ := ep_elem hq hp (hB_q hh) (Nat.le_refl q) e3 (by omega) e5
  have e1' : zf_P_run_E_L25 (nI p) 64 pf (nI q) 160 qf 200 1000 (0 : Int32) (0 : Int32) (0 : Int32) (0 : Int32) t1 (nI o1) of1 = some (nI pl, nI a, mt, co, t1', nI o, of2) := e1
  have e2' : zf_M_packs_L60 hi (nI (p + q)) (1 : Int32) 1000 (nI p) (nI p) (0 : Int32) (0 : Int32) (nI o1) mf1 t2 = some (nI (p + a), nI (p + pl), mt, co, nI o, mf2, t2') := e2
  refine ⟨_, o1, nI a, mt, co, t1', t2', of3, mf3, mf1, ?_, b3, ?_, ?_, f3, KO_t b5 (KO_t e6 f4)⟩
  · unfold zf_P_run_E
    rw [l1, bc1_e, b2, bc2_e, e1', bc7_e]
    unfold zf_EW_end
    rw [f1, bc2_e, bc2_e]
  · unfold zf_M_packs
    rw [l2, bc2_e, l3, bc2_e, e2', bc7_e, if_neg n10, f2, bc2_e]
  · omega
theorem RW_pack {qn : Int32} {qf : Nat → Int32} {sn : Int32} {sf : Nat → Int32} {pn : Int32} {pf mf sz : Nat → Int32} (h : RW qn qf sn sf pn pf mf sz) {o : Nat} {of' mf' : Nat → Int32} (ho : o ≤ 200) (hr : RO o of' mf') (hk : KO mf mf') : RW qn qf (nI o) of' pn pf mf' (upd sz 1 (nI o)) := by
  obtain ⟨⟨c0, k0⟩, -, ⟨c2, k2⟩⟩ := h
  refine ⟨⟨c0, R1_k k0 (by decide) rfl (fun j h1 h2 => hk j (by omega))⟩, ⟨o, ho, rfl, rfl, fun j hj => ?_⟩, ⟨c2, R1_k k2 (by decide) rfl (fun j h1 h2 => hk j (by omega))⟩⟩
  rw [show 200 * 1 + j = 200 + j by omega, hr j hj]
  unfold rB
  rw [if_pos hj]
theorem st_pack {qn : Int32} {qf : Nat → Int32} {sn : Int32} {sf : Nat → Int32} {pn : Int32} {pf mf sz : Nat → Int32} (h : RW qn qf sn sf pn pf mf sz) (tf : Nat → Int32) (mc cp : Int32) (hi : Nat → Int32) (bg en : Int32) (tb : Nat → Int32) (ou i1 : Int32) : (∃ (r sn' : Int32) (sf' : Nat → Int32) (an' mt' co' : Int32) (tf' : Nat → Int32) (bg' en' ou' : Int32) (mf' sz' hi' tb' : Nat → Int32), zf_X_pack qn qf sf pn pf tf i1 = some (r, sn', sf', an', mt', co', tf') ∧ zf_M_pack mf sz mc cp hi bg en tb ou i1 = some (r, (0 : Int32), mt', co', bg', en', ou', mf', sz', hi', tb') ∧ RW qn qf sn' sf' pn pf mf' sz') ∨ (zf_X_pack_IA i1 = some () ∧ zf_M_pack mf sz mc cp hi bg en tb ou i1 = some ((0 : Int32), (1 : Int32), mc, cp, bg, en, ou, mf, sz, hi, tb)) := by
  have h0 := h
  obtain ⟨⟨q, q1, rfl, q3, q4⟩, -, ⟨p, p1, rfl, p3, p4⟩⟩ := h
  obtain ⟨hi1, r1, r2⟩ := rem_all p1 p3 p4 hi
  obtain ⟨hi2, s1, s2⟩ := his_all p1 q1 q3 q4 r2
  have e0 : sz (Int32.toNatClampNeg (0 : Int32)) = nI q := q3
  rcases fmt_case i1 with rfl | rfl | ⟨a0, a1, a2⟩
  · obtain ⟨o, an, mt, co, t1, t2, of', mf', x1, x2, x3, x4, x5⟩ := pack_S (sf := sf) (mf := mf) p1 q1 s2 tf tb
    refine Or.inl ⟨nI o, nI o, of', an, mt, co, t1, nI p, nI (p + q), nI o, mf', upd sz 1 (nI o), hi2, t2, ?_, ?_, RW_pack h0 x3 x4 x5⟩
    · show (bc6 (zf_P_run_S (nI p) 64 pf (nI q) 160 qf tf 200 sf) fun v7 v8 v9 v10 v11 v12 => some (v11, v11, v12, v7, v8, v9, v10)) = _
      rw [x1, bc6_e]
    · unfold zf_M_pack
      rw [if_pos rfl, bc1_e, fails_00, bc2_e, if_pos rfl, r1, bc3_e, s1, bc2_e, gd_t (by decide), e0, nI_add]
      simp only [bnd]
      rw [if_neg (show ¬ (0 : Int32) = (1 : Int32) by decide), bc3_e, x2, bc5_e, gd_t (by decide)]
      rfl
  · obtain ⟨o, o1, an, mt, co, t1, t2, of', mf', mf1, x1, x0, x2, x3, x4, x5⟩ := pack_E (sf := sf) (mf := mf) p1 q1 s2 tf tb
    refine Or.inl ⟨nI o, nI o, of', an, mt, co, t1, nI p, nI (p + q), nI o, mf', upd sz 1 (nI o), hi2, t2, ?_, ?_, RW_pack h0 x3 x4 x5⟩
    · show (bc6 (zf_P_run_E (nI p) 64 pf (nI q) 160 qf tf 200 sf) fun v1 v2 v3 v4 v5 v6 => some (v5, v5, v6, v1, v2, v3, v4)) = _
      rw [x1, bc6_e]
    · unfold zf_M_pack
      rw [if_neg n10, if_pos rfl, bc1_e, fails_00, bc2_e, if_pos rfl, r1, bc3_e, s1, bc2_e, gd_t (by decide), e0, nI_add]
      simp only [bnd]
      rw [if_pos trivial, gd_t (by decide), x0, bc3_e, x2, bc5_e, gd_t (by decide)]
      rfl
  · refine Or.inr ⟨?_, ?_⟩
    · unfold zf_X_pack_IA
      rw [a2]
      rfl
    · unfold zf_M_pack
      rw [if_neg a0, if_neg a1]
      rfl
theorem bec_loop {d : Nat} (hd : d ≤ 160) {df : Nat → Int32} : ∀ (e i n : Nat) (f : Nat → Int32), i + e = d → e < n → (∀ j, j < i → f j = (rB df d j).toInt8.toInt32) → ∃ f', zf_R_become_L6 160 (nI d) 160 df n (nI i) (nI i) f = some (nI d, nI d, f') ∧ (∀ j, j < d → f' j = (rB df d j).toInt8.toInt32)
  | 0, i, n + 1, f, he, hn, hh => by
    have e : i = d := by omega
    subst e
    exact ⟨f, by rw [zf_R_become_L6_s, if_pos (nI_le (by omega) (by omega))], hh⟩
  | e + 1, i, n + 1, f, he, hn, hh => by
    obtain ⟨f', e1, e2⟩ := bec_loop hd e (i + 1) n (upd f i (rB df d i).toInt8.toInt32) (by omega) (by omega) (by
      intro j hj
      unfold upd
      by_cases z : j = i
      · subst z
        rw [if_pos rfl]
      · rw [if_neg z]
        exact hh j (by omega))
    refine ⟨f', ?_, e2⟩
    rw [zf_R_become_L6_s, if_neg (nI_ge (by omega) (by omega)), pu_byteAt hd (by decide) (by omega), bc1_e, pu_add (by omega) (by decide), bc2_e, ← e1]
    simp only [bnd]
    rw [nI_1]
theorem bec_all {d : Nat} (hd : d ≤ 160) (df qf : Nat → Int32) : ∃ f', zf_R_become 160 qf (nI d) 160 df = some (nI d, f') ∧ (∀ j, j < d → f' j = (rB df d j).toInt8.toInt32) := by
  obtain ⟨f', e1, e2⟩ := bec_loop hd (df := df) d 0 1000 qf (by omega) (by omega) (fun j hj => absurd hj (Nat.not_lt_zero j))
  refine ⟨f', ?_, e2⟩
  have e1' : zf_R_become_L6 160 (nI d) 160 df 1000 (0 : Int32) (0 : Int32) qf = some (nI d, nI d, f') := e1
  unfold zf_R_become
  rw [show zf_R_clear = some (0 : Int32) from rfl, bc1_e, e1', bc3_e]
theorem out_loop {p d : Nat} (hp : p ≤ 64) (hd : d ≤ 160) {hi sz' : Nat → Int32} (hs : sz' 0 = nI d) : ∀ (e i n : Nat) (m : Nat → Int32), i + e = d → e < n → (∀ j, j < i → m j = hi (p + j)) → ∃ m', zf_M_unpack_L79 (nI p) hi sz' n (nI i) m = some (nI d, m') ∧ (∀ j, j < d → m' j = hi (p + j)) ∧ (∀ j, 160 ≤ j → m' j = m j)
  | 0, i, n + 1, m, he, hn, hh => by
    have e : i = d := by omega
    subst e
    have e0 : sz' (Int32.toNatClampNeg (0 : Int32)) = nI i := hs
    exact ⟨m, by rw [zf_M_unpack_L79_s, gd_t (by decide), e0, if_pos (nI_le (by omega) (by omega))], hh, fun _ _ => rfl⟩
  | e + 1, i, n + 1, m, he, hn, hh => by
    have e0 : sz' (Int32.toNatClampNeg (0 : Int32)) = nI d := hs
    obtain ⟨m', e1, e2, e3⟩ := out_loop hp hd hs e (i + 1) n (upd m i (hi (p + i))) (by omega) (by omega) (by
      intro j hj
      unfold upd
      by_cases z : j = i
      · subst z
        rw [if_pos rfl]
      · rw [if_neg z]
        exact hh j (by omega))
    refine ⟨m', ?_, e2, fun j hj => (e3 j hj).trans (by unfold upd; rw [if_neg (by omega)])⟩
    rw [zf_M_unpack_L79_s, gd_t (by decide), e0, if_neg (nI_ge (by omega) (by omega)), nI_add, gd_t (nI_in (by omega) (by decide)), gd_t (nI_in (by omega) (by decide)), nI_clamp (by omega), nI_clamp (by omega), ← e1]
    simp only [bnd]
    rw [nI_1]
theorem rB_255 (f : Nat → Int32) (c j : Nat) : rB f c j &&& 255 = rB f c j := by
  obtain ⟨x, hx, e⟩ := rB_nat f c j
  rw [e, pk_andN (m := 255) (by omega) 8 (by decide), Nat.mod_eq_of_lt (by omega)]
theorem RW_un {qn : Int32} {qf : Nat → Int32} {sn : Int32} {sf : Nat → Int32} {pn : Int32} {pf mf sz : Nat → Int32} (h : RW qn qf sn sf pn pf mf sz) {p d : Nat} {df hi f' m' : Nat → Int32} (hd : d ≤ 160) (hs : HS p pf d df hi) (g1 : ∀ j, j < d → f' j = (rB df d j).toInt8.toInt32) (g2 : ∀ j, j < d → m' j = hi (p + j)) (g3 : ∀ j, 160 ≤ j → m' j = mf j) : RW (nI d) f' sn sf pn pf m' (upd sz 0 (nI d)) := by
  obtain ⟨-, ⟨c1, k1⟩, ⟨c2, k2⟩⟩ := h
  refine ⟨⟨d, hd, rfl, rfl, fun j hj => ?_⟩, ⟨c1, R1_k k1 (by decide) rfl (fun j h1 h2 => g3 j (by omega))⟩, ⟨c2, R1_k k2 (by decide) rfl (fun j h1 h2 => g3 j (by omega))⟩⟩
  rw [show 200 * 0 + j = j by omega, g2 j hj, hs (p + j) (by omega)]
  unfold hB
  rw [if_neg (by omega), show p + j - p = j by omega]
  show rB df d j = rB f' d j
  have : rB f' d j = f' j &&& 255 := by unfold rB; rw [if_pos hj]
  rw [this, g1 j hj, pz_b, rB_255]
theorem mg_un {p d a : Nat} {mf sz hi1 hi2 df pf : Nat → Int32} {F en : Int32} {i1 : Int32} {bg0 en0 mp0 fa0 : Int32} {hi : Nat → Int32} (hp : p ≤ 64) (h1 : zf_M_remembers mf sz hi = some (nI p, nI p, hi1)) (hu : (if i1 = 0 then some (0 : Int32) else if i1 = (1 : Int32) then some (0 : Int32) else some (1 : Int32)) = some (0 : Int32)) (hr : (if i1 = 0 then bc4 (zf_M_readZero mf sz hi1 (nI p) (nI p) (0 : Int32) (-1 : Int32)) fun v15 v16 v17 v18 => some (v15, v16, v17, v18) else bc4 (zf_M_readOne mf sz hi1 (nI p) (nI p) (0 : Int32) (-1 : Int32)) fun v11 v12 v13 v14 => some (v11, v12, v13, v14)) = some (en, nI a, F, hi2)) : (∀ m', F = -1 → en = nI (p + d) → d ≤ 160 → zf_M_unpack_L79 (nI p) hi2 (upd sz 0 (nI d)) 1000 (0 : Int32) mf = some (nI d, m') → zf_M_unpack mf sz hi bg0 en0 mp0 fa0 i1 = some (nI d, (0 : Int32), nI p, en, nI a, F, m', upd sz 0 (nI d), hi2)) ∧ (¬ F < 0 → zf_M_unpack mf sz hi bg0 en0 mp0 fa0 i1 = some ((-1 : Int32) - F, (0 : Int32), nI p, en, nI a, F, mf, sz, hi2)) := by
  refine ⟨fun m' hF he hd hm => ?_, fun hF => ?_⟩
  · unfold zf_M_unpack
    rw [hu, bc1_e, fails_00, bc2_e, if_pos rfl, h1, bc3_e, hr, bc4_e, hF, if_pos (show (-1 : Int32) < 0 by decide), he]
    rw [show zf_M_made (nI p) (nI (p + d)) = some (nI d) from congrArg some ((pk_sub (by omega)).trans (by rw [Nat.add_sub_cancel_left])), bc1_e, gd_t (by decide)]
    simp only [bnd]
    rw [show upd sz (Int32.toNatClampNeg (0 : Int32)) (nI d) = upd sz 0 (nI d) from rfl, hm, bc2_e, gd_t (by decide)]
    rfl
  · unfold zf_M_unpack
    rw [hu, bc1_e, fails_00, bc2_e, if_pos rfl, h1, bc3_e, hr, bc4_e, if_neg hF]
theorem st_unpack {qn : Int32} {qf : Nat → Int32} {sn : Int32} {sf : Nat → Int32} {pn : Int32} {pf mf sz : Nat → Int32} (h : RW qn qf sn sf pn pf mf sz) (df : Nat → Int32) (ra rr zra zrr zrp : Int32) (hi : Nat → Int32) (bg en mp fa i1 : Int32) : (∃ (r qn' : Int32) (qf' : Nat → Int32) (dn' : Int32) (df' : Nat → Int32) (ra' rr' zra' zrr' zrp' : Int32) (bg' en' mp' fa' : Int32) (mf' sz' hi' : Nat → Int32), zf_X_unpack qn qf sn sf pn pf df ra rr zra zrr zrp i1 = some (r, qn', qf', dn', df', ra', rr', zra', zrr', zrp') ∧ zf_M_unpack mf sz hi bg en mp fa i1 = some (r, (0 : Int32), bg', en', mp', fa', mf', sz', hi') ∧ RW qn' qf' sn sf pn pf mf' sz') ∨ (zf_X_unpack_IA i1 = some () ∧ zf_M_unpack mf sz hi bg en mp fa i1 = some ((0 : Int32), (1 : Int32), bg, en, mp, fa, mf, sz, hi)) := by
  have h0 := h
  obtain ⟨-, ⟨c, c1, rfl, c3, c4⟩, ⟨p, p1, rfl, p3, p4⟩⟩ := h
  obtain ⟨hi1, r1, r2⟩ := rem_all p1 p3 p4 hi
  have hrs : RS c sf mf sz := ⟨c1, c3, fun j hj => c4 j hj⟩
  have hhs : HS p pf 0 df hi1 := fun j hj => by
    unfold hB
    rw [if_pos (show j < p by omega)]
    exact r2 j (by omega)
  rcases fmt_case i1 with rfl | rfl | ⟨a0, a1, a2⟩
  · obtain ⟨F, dn, en', a, d, df', hi', e1, e2, s1, -, s3⟩ := rz_all hrs p1 hhs
    have hM := mg_un (d := d) (i1 := 0) (bg0 := bg) (en0 := en) (mp0 := mp) (fa0 := fa) (F := F) (en := en') (a := a) (hi2 := hi') (df := df') (pf := pf) p1 r1 rfl (by rw [if_pos rfl, e2, bc4_e])
    by_cases hF : F = -1
    · obtain ⟨t1, t2, t3, t4⟩ := s3 hF
      obtain ⟨f', b1, b2⟩ := bec_all t3 df' qf
      obtain ⟨m', w1, w2, w3⟩ := out_loop p1 t3 (hi := hi') (sz' := upd sz 0 (nI d)) rfl d 0 1000 mf (by omega) (by omega) (fun j hj => absurd hj (Nat.not_lt_zero j))
      refine Or.inl ⟨nI d, nI d, f', dn, df', nI a, F, zra, zrr, zrp, nI p, en', nI a, F, m', upd sz 0 (nI d), hi', ?_, hM.1 m' hF t2 t3 w1, RW_un h0 t3 t4 b2 w2 w3⟩
      show (bc4 (zf_SR_readAll (nI c) 200 sf (0 : Int32) 160 df (nI p) 64 pf (0 : Int32) (-1 : Int32)) fun v15 v16 v17 v18 => bc1 (zf_D_refused v18) fun v19 => if v19 = 0 then bc2 (zf_R_become 160 qf v15 160 v16) fun v20 v21 => some (v20, v20, v21, v15, v16, v17, v18, zra, zrr, zrp) else some (((-1 : Int32) - v18), qn, qf, v15, v16, v17, v18, zra, zrr, zrp)) = _
      rw [e1, bc4_e, hF, rfd0, bc1_e, if_pos rfl, t1, b1, bc2_e]
    · refine Or.inl ⟨(-1 : Int32) - F, qn, qf, dn, df', nI a, F, zra, zrr, zrp, nI p, en', nI a, F, mf, sz, hi', ?_, hM.2 (okf_nlt s1 hF), h0⟩
      show (bc4 (zf_SR_readAll (nI c) 200 sf (0 : Int32) 160 df (nI p) 64 pf (0 : Int32) (-1 : Int32)) fun v15 v16 v17 v18 => bc1 (zf_D_refused v18) fun v19 => if v19 = 0 then bc2 (zf_R_become 160 qf v15 160 v16) fun v20 v21 => some (v20, v20, v21, v15, v16, v17, v18, zra, zrr, zrp) else some (((-1 : Int32) - v18), qn, qf, v15, v16, v17, v18, zra, zrr, zrp)) = _
      rw [e1, bc4_e, rfd1 hF, bc1_e, if_neg n10]
  · obtain ⟨F, dn, en', pr, a, d, df', hi', e1, e2, s1, -, s3⟩ := eo_all hrs p1 hhs
    have hM := mg_un (d := d) (i1 := 1) (bg0 := bg) (en0 := en) (mp0 := mp) (fa0 := fa) (F := F) (en := en') (a := a) (hi2 := hi') (df := df') (pf := pf) p1 r1 rfl (by rw [if_neg n10, e2, bc4_e])
    by_cases hF : F = -1
    · obtain ⟨t1, t2, t3, t4⟩ := s3 hF
      obtain ⟨f', b1, b2⟩ := bec_all t3 df' qf
      obtain ⟨m', w1, w2, w3⟩ := out_loop p1 t3 (hi := hi') (sz' := upd sz 0 (nI d)) rfl d 0 1000 mf (by omega) (by omega) (fun j hj => absurd hj (Nat.not_lt_zero j))
      refine Or.inl ⟨nI d, nI d, f', dn, df', ra, rr, nI a, F, pr, nI p, en', nI a, F, m', upd sz 0 (nI d), hi', ?_, hM.1 m' hF t2 t3 w1, RW_un h0 t3 t4 b2 w2 w3⟩
      show (bc5 (zf_ER_readAll (nI c) 200 sf (0 : Int32) 160 df (nI p) 64 pf (0 : Int32) (-1 : Int32)) fun v4 v5 v6 v7 v8 => bc1 (zf_D_refused v7) fun v9 => if v9 = 0 then bc2 (zf_R_become 160 qf v4 160 v5) fun v10 v11 => some (v10, v10, v11, v4, v5, ra, rr, v6, v7, v8) else some (((-1 : Int32) - v7), qn, qf, v4, v5, ra, rr, v6, v7, v8)) = _
      rw [e1, bc5_e, hF, rfd0, bc1_e, if_pos rfl, t1, b1, bc2_e]
    · refine Or.inl ⟨(-1 : Int32) - F, qn, qf, dn, df', ra, rr, nI a, F, pr, nI p, en', nI a, F, mf, sz, hi', ?_, hM.2 (okf_nlt s1 hF), h0⟩
      show (bc5 (zf_ER_readAll (nI c) 200 sf (0 : Int32) 160 df (nI p) 64 pf (0 : Int32) (-1 : Int32)) fun v4 v5 v6 v7 v8 => bc1 (zf_D_refused v7) fun v9 => if v9 = 0 then bc2 (zf_R_become 160 qf v4 160 v5) fun v10 v11 => some (v10, v10, v11, v4, v5, ra, rr, v6, v7, v8) else some (((-1 : Int32) - v7), qn, qf, v4, v5, ra, rr, v6, v7, v8)) = _
      rw [e1, bc5_e, rfd1 hF, bc1_e, if_neg n10]
  · refine Or.inr ⟨?_, ?_⟩
    · unfold zf_X_unpack_IA
      rw [a2]
      rfl
    · unfold zf_M_unpack
      rw [if_neg a0, if_neg a1]
      rfl
