/-! Pure facts: the reader of format 1, class and reference side by side. -/
section RE
variable {c p : Nat} {sf mf sz pf : Nat → Int32}
theorem shr2 {v : Nat} (hv : v < 256) : nI v >>> ((2 : Int32) &&& 31) = nI (v / 4) := pk_shrN (by omega) _ 2 (by decide)
theorem shr5 {v : Nat} (hv : v < 256) : nI v >>> ((5 : Int32) &&& 31) = nI (v / 32) := pk_shrN (by omega) _ 5 (by decide)
theorem and3 {v : Nat} (hv : v < 256) : nI v &&& (3 : Int32) = nI (v % 4) := pk_andN (by omega) 2 (by decide)
theorem and7 {v : Nat} (hv : v < 256) : nI v &&& (7 : Int32) = nI (v % 8) := pk_andN (by omega) 3 (by decide)
/-- literals: class and reference from behind the first byte -/
theorem el_lit (h : RS c sf mf sz) (hp : p ≤ 64) {d a P v : Nat} {df hi : Nat → Int32} (ha : a + 1 ≤ c) (hd : d ≤ 160) (hP : P ≤ 160) (hs : HS p pf d df hi) (hv : v < 256) : ∃ (F' dn' en' : Int32) (a' d' : Nat) (df' hi' : Nat → Int32), zf_ER_readLiterals (nI c) 200 sf (nI d) 160 df (nI (a + 1)) (-1) (nI P) (nI (v / 4)) (nI a) = some (dn', df', nI a', F') ∧ (∀ u5 : Int32, u5 = (if 60 < v / 4 then (0 : Int32) else (1 : Int32)) → (bc1 (zf_M_need (-1) u5 (nI a)) fun v6 => bc3 (if nI (v / 4) + (1 : Int32) = (61 : Int32) then bc3 (zf_M_next mf sz (nI (a + 1)) v6) fun v28 v29 v30 => some (v28 + (1 : Int32), v29, v30) else some (nI (v / 4) + (1 : Int32), nI (a + 1), v6)) fun u25 u26 u27 => bc1 (zf_M_made (nI p) (nI (p + d))) fun v32 => bc1 (if nI P < (v32 + u25) then some (0 : Int32) else some (1 : Int32)) fun u33 => bc1 (zf_M_need u27 u33 (nI a)) fun v34 => zf_M_literals mf sz hi (nI (p + d)) u26 v34 u25) = some (en', nI a', F', hi')) ∧ SRel p pf F' dn' en' df' hi' d' ∧ a + 1 ≤ a' ∧ a' ≤ c ∧ (F' = -1 → d' ≤ P) := by
  have hc := h.1
  -- the first refusal
  have hF2 : ∃ F2 : Int32, OKF F2 ∧ (bc1 (if nI (v / 4) ≤ (60 : Int32) then some (0 : Int32) else some (1 : Int32)) fun u1 => zf_D_refuseIf (-1) u1 (nI a)) = some F2 ∧ (∀ u5 : Int32, u5 = (if 60 < v / 4 then (0 : Int32) else (1 : Int32)) → zf_M_need (-1) u5 (nI a) = some F2) := by
    by_cases g : v / 4 ≤ 60
    · refine ⟨-1, okf_m1, ?_, fun u5 e => ?_⟩
      · rw [if_pos (show nI (v / 4) ≤ (60 : Int32) from nI_le (b := 60) g (by decide)), bc1_e, rf_0]
      · rw [if_neg (by omega)] at e
        rw [e, nd_1]
    · refine ⟨nI a, okf_n (by omega), ?_, fun u5 e => ?_⟩
      · rw [if_neg (show ¬ nI (v / 4) ≤ (60 : Int32) from nI_ge (a := 60) (by omega) (by omega)), bc1_e, rf_1]
        rfl
      · rw [if_pos (by omega)] at e
        rw [e, nd_0 okf_m1]
        rfl
  obtain ⟨F2, ok2, e1, e2⟩ := hF2
  -- the number of literals
  have hn : ∃ (m a3 : Nat) (F3 : Int32), OKF F3 ∧ m ≤ 256 ∧ a + 1 ≤ a3 ∧ a3 ≤ c ∧ (if nI (v / 4) = (60 : Int32) then zf_D_take (nI c) 200 sf (nI (a + 1)) F2 else some (nI (v / 4), nI (a + 1), F2)) = some (nI m, nI a3, F3) ∧ (if nI (v / 4) + (1 : Int32) = (61 : Int32) then bc3 (zf_M_next mf sz (nI (a + 1)) F2) fun v28 v29 v30 => some (v28 + (1 : Int32), v29, v30) else some (nI (v / 4) + (1 : Int32), nI (a + 1), F2)) = some (nI (m + 1), nI a3, F3) := by
    have e0 : nI (v / 4) + (1 : Int32) = nI (v / 4 + 1) := nI_1 _
    by_cases g : v / 4 = 60
    · obtain ⟨w, a3, F3, x1, x2, hw, b1, b2, ok3, -, -⟩ := tk h (a := a + 1) (F := F2) ha ok2
      refine ⟨w, a3, F3, ok3, by omega, b1, b2, ?_, ?_⟩
      · rw [if_pos (by rw [g]; rfl), x1]
      · rw [if_pos (by rw [g]; rfl), x2, bc3_e, nI_1]
    · refine ⟨v / 4, a + 1, F2, ok2, by omega, Nat.le_refl _, ha, ?_, ?_⟩
      · rw [if_neg (show ¬ nI (v / 4) = (60 : Int32) from fun z => g (pz_inj (b := 60) (by omega) (by decide) z))]
      · rw [e0, if_neg (show ¬ nI (v / 4 + 1) = (61 : Int32) from fun z => g (by have := pz_inj (a := v / 4 + 1) (b := 61) (by omega) (by decide) z; omega))]
  obtain ⟨m, a3, F3, ok3, hm, b1, b2, e3, e4⟩ := hn
  have R0 : SRel p pf F3 (nI d) (nI (p + d)) df hi d := ⟨ok3, ⟨d, hd, rfl⟩, fun _ => ⟨rfl, rfl, hd, hs⟩⟩
  obtain ⟨F4, e5, e6, ok4, g4, g4'⟩ := rq hp (x := a) (lim := P) (s := m + 1) R0 (by omega) (by omega) (by omega)
  have R1 : SRel p pf F4 (nI d) (nI (p + d)) df hi d := ⟨ok4, ⟨d, hd, rfl⟩, fun _ => ⟨rfl, rfl, hd, hs⟩⟩
  obtain ⟨F5, dn5, en5, a5, df5, hi5, e7, e8, R5, b5, b6, g5⟩ := cl h hp (s := m + 1) R1 (fun z => by have := (g4 z).2; omega) (by omega) b2
  refine ⟨F5, dn5, en5, a5, d + (m + 1), df5, hi5, ?_, fun u5 eu => ?_, R5, by omega, b6, fun z => ?_⟩
  · unfold zf_ER_readLiterals
    have e1' : ∀ {ρ : Type} (k : Int32 → Option ρ), (bc1 (if nI (v / 4) ≤ (60 : Int32) then some (0 : Int32) else some (1 : Int32)) fun u1 => bc1 (zf_D_refuseIf (-1) u1 (nI a)) k) = k F2 := by
      intro ρ k
      by_cases g : nI (v / 4) ≤ (60 : Int32)
      · rw [if_pos g, bc1_e] at e1
        rw [if_pos g, bc1_e, e1, bc1_e]
      · rw [if_neg g, bc1_e] at e1
        rw [if_neg g, bc1_e, e1, bc1_e]
    rw [e1']
    simp only [bc3_id, bc4_id]
    rw [e3, bc3_e, nI_1, e5, bc1_e, e7]
  · rw [e2 u5 eu, bc1_e, e4, bc3_e, e6, e8]
  · have q : F4 = -1 := Classical.byContradiction fun w => w ((g5 w).symm.trans z)
    have := (g4 q).2
    omega
/-- the copies: behind the distance -/
theorem el_back (h : RS c sf mf sz) (hp : p ≤ 64) {d a a2 P t m x : Nat} {F2 : Int32} {df hi : Nat → Int32} (hd : d ≤ 160) (hP : P ≤ 160) (hs : HS p pf d df hi) (ok2 : OKF F2) (ht : t < 2 ^ 30) (hm : m < 2 ^ 10) (hx : x < 2 ^ 30) (ha : a < 2 ^ 30) (ha2 : a2 ≤ c) : ∃ (F' F3 dn' en' : Int32) (d' : Nat) (df' hi' : Nat → Int32), zf_D_requireDistance (nI d) (nI p) F2 (nI t) (nI x) = some F3 ∧ zf_D_requireRoom (nI d) F3 (nI m) (nI P) (nI a) = some F' ∧ zf_D_copyBack (nI d) 160 df (nI p) 64 pf F' (nI t) (nI m) = some (dn', df') ∧ (bc1 (if nI t ≤ 0 then some (0 : Int32) else if nI (p + d) < nI t then some (0 : Int32) else some (1 : Int32)) fun u18 => bc1 (zf_M_need F2 u18 (nI x)) fun v19 => bc1 (zf_M_made (nI p) (nI (p + d))) fun v20 => bc1 (if nI P < (v20 + nI m) then some (0 : Int32) else some (1 : Int32)) fun u21 => bc1 (zf_M_need v19 u21 (nI a)) fun v22 => bc2 (zf_M_copies hi (nI (p + d)) v22 (nI m) (nI t)) fun v23 v24 => some (v23, nI a2, v22, v24)) = some (en', nI a2, F', hi') ∧ SRel p pf F' dn' en' df' hi' d' ∧ (F' = -1 → d' ≤ P) ∧ (¬ F2 = -1 → F' = F2) := by
  have R0 : SRel p pf F2 (nI d) (nI (p + d)) df hi d := ⟨ok2, ⟨d, hd, rfl⟩, fun _ => ⟨rfl, rfl, hd, hs⟩⟩
  obtain ⟨F3, e1, e2, ok3, g3, g3'⟩ := rd hp (t := t) (x := x) R0 ht (by omega)
  have R1 : SRel p pf F3 (nI d) (nI (p + d)) df hi d := ⟨ok3, ⟨d, hd, rfl⟩, fun _ => ⟨rfl, rfl, hd, hs⟩⟩
  obtain ⟨F4, e3, e4, ok4, g4, g4'⟩ := rq hp (x := a) (lim := P) (s := m) R1 (by omega) (by omega) (by omega)
  have R2 : SRel p pf F4 (nI d) (nI (p + d)) df hi d := ⟨ok4, ⟨d, hd, rfl⟩, fun _ => ⟨rfl, rfl, hd, hs⟩⟩
  obtain ⟨dn5, en5, df5, hi5, e5, e6, R5⟩ := cb hp (s := m) (t := t) R2 (fun z => by have := (g4 z).2; omega) (by omega) (fun z => (g3 (g4 z).1).2)
  refine ⟨F4, F3, dn5, en5, d + m, df5, hi5, e1, e3, e5, ?_, R5, fun z => (g4 z).2, fun z => (g4' (by rw [g3' z]; exact z)).trans (g3' z)⟩
  rw [e2, e4, e6, bc2_e]
theorem el_pair (h : RS c sf mf sz) (hp : p ≤ 64) {d a P : Nat} {df hi : Nat → Int32} (ha : a < c) (hd : d ≤ 160) (hP : P ≤ 160) (hdP : d ≤ P) (hs : HS p pf d df hi) : ∃ (F' dn' en' : Int32) (a' d' : Nat) (df' hi' : Nat → Int32), zf_ER_readElement (nI c) 200 sf (nI d) 160 df (nI p) 64 pf (nI a) (-1) (nI P) = some (dn', df', nI a', F') ∧ zf_M_element mf sz hi (nI p) (nI (p + d)) (nI a) (-1) (nI P) = some (en', nI a', F', hi') ∧ SRel p pf F' dn' en' df' hi' d' ∧ a + 1 ≤ a' ∧ a' ≤ c ∧ (F' = -1 → d' ≤ P) := by
  have hc := h.1
  obtain ⟨e1, e2⟩ := tk_B h ha
  obtain ⟨v, hv, ev⟩ := rB_nat sf c a
  rw [ev] at e1 e2
  unfold zf_ER_readElement zf_M_element
  simp only [bnd, bc4_id]
  rw [e1, bc3_e, e2, bc3_e, and3 hv, shr2 hv]
  have h4 : v % 4 = 0 ∨ v % 4 = 1 ∨ v % 4 = 2 ∨ v % 4 = 3 := by omega
  rcases h4 with h4 | h4 | h4 | h4
  · rw [h4, show nI 0 = (0 : Int32) from rfl, if_pos (show (0 : Int32) = 0 from rfl), if_neg (show ¬ (3 : Int32) ≤ (0 : Int32) by decide), if_neg (show ¬ (0 : Int32) < (0 : Int32) by decide)]
    obtain ⟨F', dn', en', a', d', df', hi', f1, f2, R, b1, b2, b3⟩ := el_lit h hp (P := P) (a := a) (by omega) hd hP hs hv
    refine ⟨F', dn', en', a', d', df', hi', f1, ?_, R, b1, b2, b3⟩
    by_cases g : 60 < v / 4
    · rw [if_pos (show (60 : Int32) < nI (v / 4) from nI_lt (a := 60) g (by omega)), bc1_e]
      have f3 := f2 0 (by rw [if_pos g])
      simp only [bc1_e, if_true]
      exact f3
    · rw [if_neg (show ¬ (60 : Int32) < nI (v / 4) from nI_nlt (a := 60) (by omega) (by decide)), bc1_e]
      have f3 := f2 1 (by rw [if_neg g])
      simp only [bc1_e, if_true]
      exact f3
  · rw [h4, show nI 1 = (1 : Int32) from rfl, if_neg (show ¬ (1 : Int32) = 0 by decide), if_pos (show (1 : Int32) = (1 : Int32) from rfl), if_neg (show ¬ (3 : Int32) ≤ (1 : Int32) by decide), if_pos (show (0 : Int32) < (1 : Int32) by decide), bc1_e, nd_1, bc1_e, if_neg (show ¬ (1 : Int32) = 0 by decide), if_pos (show (1 : Int32) = (1 : Int32) from rfl), bc1_e, if_neg (show ¬ (1 : Int32) = 0 by decide), if_pos (show (1 : Int32) = (1 : Int32) from rfl), bc1_e]
    obtain ⟨w, a2, F2, x1, x2, hw, b1, b2, ok2, -, -⟩ := tk h (a := a + 1) (F := -1) (by omega) okf_m1
    have et : nI (v / 32) * (256 : Int32) + nI w = nI (v / 32 * 256 + w) := by rw [show nI (v / 32) * (256 : Int32) = nI (v / 32 * 256) from pk_mul _ 256, nI_add]
    have et' : nI w + nI (v / 32) * (256 : Int32) = nI (v / 32 * 256 + w) := by rw [Int32.add_comm]; exact et
    have em : (nI (v / 4) &&& (7 : Int32)) + (4 : Int32) = nI (v / 4 % 8 + 4) := by rw [and7 (by omega)]; exact nI_add _ 4
    obtain ⟨F', F3, dn', en', d', df', hi', f1, f2, f3, f4, R, b3, -⟩ := el_back h hp (P := P) (a := a) (a2 := a2) (x := a) (t := v / 32 * 256 + w) (m := v / 4 % 8 + 4) hd hP hs ok2 (by omega) (by omega) (by omega) (by omega) b2
    refine ⟨F', dn', en', a2, d', df', hi', ?_, ?_, R, by omega, b2, b3⟩
    · unfold zf_ER_readShortCopy
      simp only [bnd]
      rw [x1, bc3_e, shr5 hv, et, f1, bc1_e, shr2 hv, em, f2, bc1_e, f3, bc2_e]
    · rw [x2, bc3_e, if_pos (show (1 : Int32) = (1 : Int32) from rfl), shr5 hv, et', bc3_e, em, f4]
  · rw [h4, show nI 2 = (2 : Int32) from rfl, if_neg (show ¬ (2 : Int32) = 0 by decide), if_neg (show ¬ (2 : Int32) = (1 : Int32) by decide), if_pos (show (2 : Int32) = (2 : Int32) from rfl), if_neg (show ¬ (3 : Int32) ≤ (2 : Int32) by decide), if_pos (show (0 : Int32) < (2 : Int32) by decide), bc1_e, nd_1, bc1_e, if_neg (show ¬ (2 : Int32) = 0 by decide), if_neg (show ¬ (2 : Int32) = (1 : Int32) by decide), bc1_e, if_neg (show ¬ (2 : Int32) = 0 by decide), if_neg (show ¬ (2 : Int32) = (1 : Int32) by decide), bc1_e]
    obtain ⟨lo, a2, F2, x1, x2, hlo, b1, b2, ok2, -, -⟩ := tk h (a := a + 1) (F := -1) (by omega) okf_m1
    obtain ⟨hb, a3, F3, x3, x4, hhb, b4, b5, ok3, -, -⟩ := tk h (a := a2) (F := F2) b2 ok2
    have em : nI (v / 4) + (1 : Int32) = nI (v / 4 + 1) := nI_1 _
    obtain ⟨F', F4, dn', en', d', df', hi', f1, f2, f3, f4, R, b6, -⟩ := el_back h hp (P := P) (a := a) (a2 := a3) (x := a + 1) (t := lo + hb * 256) (m := v / 4 + 1) hd hP hs ok3 (by omega) (by omega) (by omega) (by omega) b5
    refine ⟨F', dn', en', a3, d', df', hi', ?_, ?_, R, by omega, b5, b6⟩
    · unfold zf_ER_readLongCopy zf_D_takeTwo
      simp only [bnd]
      rw [x1, bc3_e, x3, bc3_e, bc3_e, or8 hlo hhb, nI_1, f1, bc1_e, shr2 hv, em, f2, bc1_e, f3, bc2_e]
    · rw [x2, bc3_e, if_neg (show ¬ (2 : Int32) = (1 : Int32) by decide), x4, bc3_e, or8 hlo hhb, bc3_e, em, f4]
  · rw [h4, show nI 3 = (3 : Int32) from rfl, if_neg (show ¬ (3 : Int32) = 0 by decide), if_neg (show ¬ (3 : Int32) = (1 : Int32) by decide), if_neg (show ¬ (3 : Int32) = (2 : Int32) by decide), if_pos (show (3 : Int32) ≤ (3 : Int32) by decide), rf_1, bc1_e, bc1_e, nd_0 okf_m1, bc1_e, if_neg (show ¬ (3 : Int32) = 0 by decide), if_neg (show ¬ (3 : Int32) = (1 : Int32) by decide), bc1_e, if_neg (show ¬ (3 : Int32) = 0 by decide), if_neg (show ¬ (3 : Int32) = (1 : Int32) by decide), bc1_e]
    have eF : fx (-1) (nI a) = nI a := rfl
    have okA : OKF (nI a) := okf_n (by omega)
    have nA : ¬ nI a = -1 := ne_m1 (by omega)
    rw [eF]
    have x2 : zf_M_next mf sz (nI (a + 1)) (nI a) = some ((0 : Int32), nI (a + 1), nI a) := (tk_A h okA nA).2
    obtain ⟨F', F4, dn', en', d', df', hi', f1, f2, f3, f4, R, b6, b7⟩ := el_back h hp (P := P) (a := a) (a2 := a + 1) (F2 := nI a) (x := a + 1) (t := 0 + 0 * 256) (m := v / 4 + 1) hd hP hs okA (by omega) (by omega) (by omega) (by omega) (by omega)
    have b7 := b7 nA
    subst b7
    rw [x2, bc3_e, if_neg (show ¬ (3 : Int32) = (1 : Int32) by decide), x2, bc3_e, show (0 : Int32) ||| ((0 : Int32) <<< ((8 : Int32) &&& 31)) = nI (0 + 0 * 256) from rfl, bc3_e, nI_1 (v / 4), f4]
    exact ⟨nI a, nI d, en', a + 1, d, df, hi', rfl, rfl, ⟨okA, ⟨d, hd, rfl⟩, fun z => absurd z nA⟩, Nat.le_refl _, by omega, fun z => absurd z nA⟩
theorem eo_loop (h : RS c sf mf sz) (hp : p ≤ 64) {P : Nat} (hP : P ≤ 160) : ∀ (e a tn d n : Nat) (F dn en : Int32) (df hi : Nat → Int32), c ≤ a + e → a ≤ c → tn ≤ a → (a = 0 → c = 0 ∨ ¬ F = -1) → (0 < a → tn + 1 ≤ a) → e + 1 < n → SRel p pf F dn en df hi d → (F = -1 → d ≤ P) → ∃ (F' dn' en' t' : Int32) (a' d' : Nat) (df' hi' : Nat → Int32), zf_ER_readAll_L10 (nI c) 200 sf 160 (nI p) 64 pf (nI P) n (nI tn) dn df (nI a) F = some (t', dn', df', nI a', F') ∧ zf_M_readOne_L65 mf sz (nI p) (nI P) n en (nI a) F hi = some (en', nI a', F', hi') ∧ SRel p pf F' dn' en' df' hi' d' ∧ (F' = -1 → d' ≤ P)
  | e, a, tn, d, n + 1, F, dn, en, df, hi, ha, hac, ht, h0, h1, hn, R, hd => by
    have hc := h.1
    have hsz := h.2.1
    have ok := R.1
    by_cases g : F = -1
    · by_cases ga : a < c
      · have hpos : 0 < a := Nat.pos_of_ne_zero fun z => by rcases h0 z with q | q; exact absurd ga (by omega); exact q g
        have ht1 := h1 hpos
        subst g
        obtain ⟨r1, r2, r3, r4⟩ := R.2.2 rfl
        subst r1
        subst r2
        obtain ⟨F', dn', en', a', d', df', hi', f1, f2, R', b1, b2, b3⟩ := el_pair h hp ga r3 hP (hd rfl) r4
        match e, ha, hn with
        | 0, ha, hn => omega
        | e + 1, ha, hn =>
          obtain ⟨F2, dn2, en2, t2, a2, d2, df2, hi2, x1, x2, R2, y⟩ := eo_loop h hp hP e a' (tn + 1) d' n F' dn' en' df' hi' (by omega) b2 (by omega) (fun z => by omega) (fun _ => by omega) (by omega) R' b3
          refine ⟨F2, dn2, en2, t2, a2, d2, df2, hi2, ?_, ?_, R2, y⟩
          · rw [zf_ER_readAll_L10_s, if_neg (nI_ge (by omega) (by omega))]
            unfold zf_D_atEnd
            rw [if_pos (nI_lt ga (by omega)), bc1_e, if_pos rfl, rfd0, bc1_e, if_pos rfl, f1, bc4_e]
            simp only [bnd]
            rw [nI_1, x1]
          · rw [zf_M_readOne_L65_s, if_neg (by decide), gd_t in1, cl1, hsz, if_neg (nI_ge ga (by omega)), f2, bc4_e, x2]
      · have e0 : a = c := by omega
        subst e0
        refine ⟨F, dn, en, nI tn, a, d, df, hi, ?_, ?_, R, hd⟩
        · rw [zf_ER_readAll_L10_s]
          split
          · rfl
          · unfold zf_D_atEnd
            rw [if_neg (nI_nlt (Nat.le_refl _) (by omega)), bc1_e, if_neg (by decide)]
        · rw [zf_M_readOne_L65_s, if_neg (by rw [g]; decide), gd_t in1, cl1, hsz, if_pos (nI_le (Nat.le_refl _) (by omega))]
    · refine ⟨F, dn, en, nI tn, a, d, df, hi, ?_, ?_, R, hd⟩
      · rw [zf_ER_readAll_L10_s]
        split
        · rfl
        · unfold zf_D_atEnd
          split
          · rw [bc1_e, if_pos rfl, rfd1 g, bc1_e, if_neg (by decide)]
          · rw [bc1_e, if_neg (by decide)]
      · rw [zf_M_readOne_L65_s, if_pos (okf_ge ok g)]
theorem or7 {x y : Nat} (hx : x < 256) (hy : y < 256) : (nI x &&& (127 : Int32)) ||| (nI y <<< ((7 : Int32) &&& 31)) = nI (x % 128 + y * 128) := by
  rw [pk_andN (by omega) 7 (by decide), pk_shlN (n := y) _ 7 (by decide) (by omega), pz_or, pz_or_add (k := 7) (by omega)]
theorem sz_pair (h : RS c sf mf sz) : ∃ (P a' : Nat) (F' : Int32), zf_ER_takeSize (nI c) 200 sf (nI 0) (-1) = some (nI P, nI a', F') ∧ (∀ {ρ : Type} (k : Int32 → Int32 → Int32 → Option ρ), (bc3 (zf_M_next mf sz (nI 0) (-1)) fun v1 v2 v3 => bc3 (if v1 ≤ (127 : Int32) then some (v1, v2, v3) else bc3 (zf_M_next mf sz v2 v3) fun v7 v8 v9 => bc1 (if (128 : Int32) ≤ v7 then some (0 : Int32) else some (1 : Int32)) fun u10 => bc1 (zf_M_need v9 u10 (1 : Int32)) fun v11 => some ((v1 &&& (127 : Int32)) ||| (v7 <<< ((7 : Int32) &&& 31)), v8, v11)) fun u4 u5 u6 => bc1 (if (160 : Int32) < u4 then some (0 : Int32) else some (1 : Int32)) fun u13 => bc1 (zf_M_need u6 u13 (u5 - (1 : Int32))) fun v14 => k u4 u5 v14) = k (nI P) (nI a') F') ∧ OKF F' ∧ a' ≤ c ∧ P < 2 ^ 16 ∧ (F' = -1 → P ≤ 160 ∧ 1 ≤ a') := by
  have hc := h.1
  obtain ⟨v, a1, F1, e1, e2, hv, b1, b2, ok1, g1, -⟩ := tk h (a := 0) (F := -1) (by omega) okf_m1
  unfold zf_ER_takeSize
  simp only [bnd]
  rw [e1, bc3_e]
  by_cases g : v ≤ 127
  · refine ⟨v, a1, F1, ?_, fun k => ?_, ok1, b2, by omega, fun z => ⟨by omega, by have := (g1 z).2; omega⟩⟩
    · rw [if_neg (show ¬ (127 : Int32) < nI v from nI_nlt (a := 127) (by omega) (by decide))]
    · rw [e2, bc3_e, if_pos (show nI v ≤ (127 : Int32) from nI_le (b := 127) g (by decide)), bc3_e, if_neg (show ¬ (160 : Int32) < nI v from nI_nlt (a := 160) (by omega) (by decide)), bc1_e, nd_1, bc1_e]
  · obtain ⟨w, a2, F2, e3, e4, hw, b3, b4, ok2, g2, g2'⟩ := tk h (a := a1) (F := F1) b2 ok1
    rw [if_pos (show (127 : Int32) < nI v from nI_lt (a := 127) (by omega) (by omega)), e3, bc3_e, or7 hv hw]
    -- the second byte
    have hF3 : ∃ F3 : Int32, OKF F3 ∧ (∀ {ρ : Type} (k : Int32 → Option ρ), (bc1 (if nI w ≤ (127 : Int32) then some (0 : Int32) else some (1 : Int32)) fun u7 => bc1 (zf_D_refuseIf F2 u7 (nI a2 - (1 : Int32))) k) = k F3) ∧ (∀ {ρ : Type} (k : Int32 → Option ρ), (bc1 (if (128 : Int32) ≤ nI w then some (0 : Int32) else some (1 : Int32)) fun u10 => bc1 (zf_M_need F2 u10 (1 : Int32)) k) = k F3) ∧ (F3 = -1 → F2 = -1) := by
      by_cases gw : w ≤ 127
      · refine ⟨F2, ok2, fun k => ?_, fun k => ?_, id⟩
        · rw [if_pos (show nI w ≤ (127 : Int32) from nI_le (b := 127) gw (by decide)), bc1_e, rf_0, bc1_e]
        · rw [if_neg (show ¬ (128 : Int32) ≤ nI w from nI_ge (b := 128) (by omega) (by decide)), bc1_e, nd_1, bc1_e]
      · by_cases gF : F2 = -1
        · have q := g2 gF
          have q1 := g1 q.1
          have ea : a2 = 2 := by omega
          subst gF
          subst ea
          refine ⟨nI 1, okf_n (by decide), fun k => ?_, fun k => ?_, fun z => rfl⟩
          · rw [if_neg (show ¬ nI w ≤ (127 : Int32) from nI_ge (a := 127) (by omega) (by omega)), bc1_e, rf_1, bc1_e]
            rfl
          · rw [if_pos (show (128 : Int32) ≤ nI w from nI_le (a := 128) (by omega) (by omega)), bc1_e, nd_0 okf_m1, bc1_e]
            rfl
        · have ef : ∀ z : Int32, fx F2 z = F2 := fun z => by unfold fx; rw [if_neg gF]
          refine ⟨F2, ok2, fun k => ?_, fun k => ?_, id⟩
          · rw [if_neg (show ¬ nI w ≤ (127 : Int32) from nI_ge (a := 127) (by omega) (by omega)), bc1_e, rf_1, bc1_e, ef]
          · rw [if_pos (show (128 : Int32) ≤ nI w from nI_le (a := 128) (by omega) (by omega)), bc1_e, nd_0 ok2, bc1_e, ef]
    obtain ⟨F3, ok3, f1, f2, f3⟩ := hF3
    rw [f1]
    by_cases gP : v % 128 + w * 128 ≤ 160
    · refine ⟨v % 128 + w * 128, a2, F3, ?_, fun k => ?_, ok3, b4, by omega, fun z => ⟨gP, by have := (g2 (f3 z)).2; omega⟩⟩
      · rw [if_pos (show nI (v % 128 + w * 128) ≤ (160 : Int32) from nI_le (b := 160) gP (by decide)), bc1_e, rf_0, bc1_e]
      · rw [e2, bc3_e, if_neg (show ¬ nI v ≤ (127 : Int32) from nI_ge (a := 127) (by omega) (by omega)), e4, bc3_e, f2, or7 hv hw, bc3_e, if_neg (show ¬ (160 : Int32) < nI (v % 128 + w * 128) from nI_nlt (a := 160) (by omega) (by decide)), bc1_e, nd_1, bc1_e]
    · have okx : OKF (fx F3 (nI a2 - (1 : Int32))) := by
        unfold fx
        by_cases z : F3 = -1
        · rw [if_pos z]
          have := (g2 (f3 z)).2
          rw [show nI a2 - (1 : Int32) = nI (a2 - 1) from pk_sub (b := 1) (by omega)]
          exact okf_n (by omega)
        · rw [if_neg z]
          exact ok3
      refine ⟨v % 128 + w * 128, a2, fx F3 (nI a2 - (1 : Int32)), ?_, fun k => ?_, okx, b4, by omega, fun z => ?_⟩
      · rw [if_neg (show ¬ nI (v % 128 + w * 128) ≤ (160 : Int32) from nI_ge (a := 160) (by omega) (by omega)), bc1_e, rf_1, bc1_e]
      · rw [e2, bc3_e, if_neg (show ¬ nI v ≤ (127 : Int32) from nI_ge (a := 127) (by omega) (by omega)), e4, bc3_e, f2, or7 hv hw, bc3_e, if_pos (show (160 : Int32) < nI (v % 128 + w * 128) from nI_lt (a := 160) (by omega) (by omega)), bc1_e, nd_0 ok3, bc1_e]
      · exfalso
        unfold fx at z
        by_cases z3 : F3 = -1
        · rw [if_pos z3] at z
          have := (g2 (f3 z3)).2
          rw [show nI a2 - (1 : Int32) = nI (a2 - 1) from pk_sub (b := 1) (by omega)] at z
          exact ne_m1 (by omega) z
        · rw [if_neg z3] at z
          exact z3 z
theorem eo_all (h : RS c sf mf sz) (hp : p ≤ 64) {df hi : Nat → Int32} (hs : HS p pf 0 df hi) : ∃ (F' dn' en' pr' : Int32) (a' d' : Nat) (df' hi' : Nat → Int32), zf_ER_readAll (nI c) 200 sf (0 : Int32) 160 df (nI p) 64 pf (0 : Int32) (-1) = some (dn', df', nI a', F', pr') ∧ zf_M_readOne mf sz hi (nI p) (nI p) (0 : Int32) (-1) = some (en', nI a', F', hi') ∧ SRel p pf F' dn' en' df' hi' d' := by
  have hc := h.1
  have hsz := h.2.1
  obtain ⟨P, a1, F1, e1, e2, ok1, b1, b2, b3⟩ := sz_pair h
  have R1 : SRel p pf F1 (nI 0) (nI (p + 0)) df hi 0 := ⟨ok1, ⟨0, by decide, rfl⟩, fun _ => ⟨rfl, rfl, by decide, hs⟩⟩
  have hL : ∃ (F' dn' en' t' : Int32) (a' d' : Nat) (df' hi' : Nat → Int32), zf_ER_readAll_L10 (nI c) 200 sf 160 (nI p) 64 pf (nI P) 1000 (nI 0) (nI 0) df (nI a1) F1 = some (t', dn', df', nI a', F') ∧ zf_M_readOne_L65 mf sz (nI p) (nI P) 1000 (nI (p + 0)) (nI a1) F1 hi = some (en', nI a', F', hi') ∧ SRel p pf F' dn' en' df' hi' d' ∧ (F' = -1 → d' ≤ P) := by
    by_cases g : F1 = -1
    · obtain ⟨q1, q2⟩ := b3 g
      exact eo_loop h hp q1 c a1 0 0 1000 F1 (nI 0) (nI (p + 0)) df hi (by omega) b1 (by omega) (fun z => by omega) (fun _ => by omega) (by omega) R1 (fun _ => by omega)
    · refine ⟨F1, nI 0, nI (p + 0), nI 0, a1, 0, df, hi, ?_, ?_, R1, fun z => absurd z g⟩
      · rw [show (1000 : Nat) = 999 + 1 from rfl, zf_ER_readAll_L10_s]
        split
        · rfl
        · unfold zf_D_atEnd
          split
          · rw [bc1_e, if_pos rfl, rfd1 g, bc1_e, if_neg (by decide)]
          · rw [bc1_e, if_neg (by decide)]
      · rw [show (1000 : Nat) = 999 + 1 from rfl, zf_M_readOne_L65_s, if_pos (okf_ge ok1 g)]
  obtain ⟨F2, dn2, en2, t2, a2, d2, df2, hi2, x1, x2, R2, y⟩ := hL
  have hfin : ∃ F3 : Int32, OKF F3 ∧ (bc1 (if nI P ≤ dn2 then some (0 : Int32) else some (1 : Int32)) fun u21 => zf_D_refuseIf F2 u21 (nI c)) = some F3 ∧ (bc1 (if en2 - nI p = nI P then some (1 : Int32) else some (0 : Int32)) fun u28 => zf_M_need F2 u28 (nI c)) = some F3 ∧ (F3 = -1 → F2 = -1) := by
    have ok2 := R2.1
    by_cases g : F2 = -1
    · obtain ⟨r1, r2, r3, r4⟩ := R2.2.2 g
      have := y g
      subst g
      rw [r1, r2, show nI (p + d2) - nI p = nI d2 by rw [pk_sub (by omega)]; congr 1; omega]
      by_cases gd : d2 = P
      · subst gd
        exact ⟨-1, okf_m1, by rw [if_pos (nI_le (Nat.le_refl _) (by omega)), bc1_e, rf_0], by rw [if_pos rfl, bc1_e, nd_1], fun _ => rfl⟩
      · refine ⟨nI c, okf_n (by omega), ?_, ?_, fun _ => rfl⟩
        · rw [if_neg (nI_ge (by omega) (by omega)), bc1_e, rf_1]
          rfl
        · rw [if_neg (fun z => gd (pz_inj (by omega) (by omega) z)), bc1_e, nd_0 okf_m1]
          rfl
    · have ef : ∀ z : Int32, fx F2 z = F2 := fun z => by unfold fx; rw [if_neg g]
      refine ⟨F2, ok2, ?_, ?_, id⟩
      · split
        · rw [bc1_e, rf_0]
        · rw [bc1_e, rf_1, ef]
      · split
        · rw [bc1_e, nd_1]
        · rw [bc1_e, nd_0 ok2, ef]
  obtain ⟨F3, ok3, z1, z2, z3⟩ := hfin
  refine ⟨F3, dn2, en2, nI P, a2, d2, df2, hi2, ?_, ?_, ⟨ok3, R2.2.1, fun z => R2.2.2 (z3 z)⟩⟩
  · unfold zf_ER_readAll
    rw [show (0 : Int32) = nI 0 from rfl, e1, bc3_e, x1, bc5_e]
    have z1' : ∀ {ρ : Type} (k : Int32 → Option ρ), (bc1 (if nI P ≤ dn2 then some (nI 0) else some (1 : Int32)) fun u21 => bc1 (zf_D_refuseIf F2 u21 (nI c)) k) = k F3 := by
      intro ρ k
      by_cases g : nI P ≤ dn2
      · rw [if_pos g, bc1_e] at z1
        rw [if_pos g, bc1_e, show nI 0 = (0 : Int32) from rfl, z1, bc1_e]
      · rw [if_neg g, bc1_e] at z1
        rw [if_neg g, bc1_e, z1, bc1_e]
    rw [z1']
  · unfold zf_M_readOne
    simp only [bnd]
    rw [show zf_M_next mf sz (0 : Int32) (-1) = zf_M_next mf sz (nI 0) (-1) from rfl, e2]
    have x3 : zf_M_readOne_L65 mf sz (nI p) (nI P) 1000 (nI p) (nI a1) F1 hi = some (en2, nI a2, F2, hi2) := x2
    rw [x3, bc4_e]
    unfold zf_M_made
    simp only [gd_t in1]
    simp only [cl1, hsz]
    rw [bc1_e]
    by_cases g : en2 - nI p = nI P
    · rw [if_pos g, bc1_e] at z2
      rw [if_pos g, bc1_e, z2, bc1_e]
    · rw [if_neg g, bc1_e] at z2
      rw [if_neg g, bc1_e, z2, bc1_e]
end RE
