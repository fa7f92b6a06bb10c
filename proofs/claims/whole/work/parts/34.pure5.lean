/-! Pure facts: the readers' small steps, class and reference side by side. -/
def OKF (F : Int32) : Prop := F = -1 ∨ ∃ x, x < 2 ^ 31 ∧ F = nI x
theorem okf_m1 : OKF (-1) := Or.inl rfl
theorem okf_n {x : Nat} (h : x < 2 ^ 31) : OKF (nI x) := Or.inr ⟨x, h, rfl⟩
theorem okf_ge {F : Int32} (h : OKF F) (hn : ¬ F = -1) : 0 ≤ F := by
  rcases h with h | ⟨x, hx, h⟩
  · exact absurd h hn
  · rw [h]; exact nI_pos' hx
theorem okf_nlt {F : Int32} (h : OKF F) (hn : ¬ F = -1) : ¬ F < 0 := by
  rcases h with h | ⟨x, hx, h⟩
  · exact absurd h hn
  · rw [h]; exact nI_pos hx
def fx (F x : Int32) : Int32 := if F = -1 then x else F
theorem okf_fx {F x : Int32} (h : OKF F) (hx : OKF x) : OKF (fx F x) := by
  unfold fx
  split
  · exact hx
  · exact h
theorem rf_1 (F x : Int32) : zf_D_refuseIf F (1 : Int32) x = some (fx F x) := by
  unfold zf_D_refuseIf fx
  rw [if_neg (by decide)]
  split <;> rfl
theorem rf_0 (F x : Int32) : zf_D_refuseIf F (0 : Int32) x = some F := by
  unfold zf_D_refuseIf
  rw [if_pos rfl]
theorem nd_0 {F x : Int32} (h : OKF F) : zf_M_need F (0 : Int32) x = some (fx F x) := by
  unfold zf_M_need fx
  by_cases c : F = -1
  · subst c
    rw [if_neg (by decide), if_pos rfl, if_pos rfl]
  · rw [if_pos (okf_ge h c), if_neg c]
theorem nd_1 {F x : Int32} : zf_M_need F (1 : Int32) x = some F := by
  unfold zf_M_need
  rw [if_neg (show ¬ (1 : Int32) = 0 by decide)]
  split <;> rfl
section RD
variable {c : Nat} {sf mf sz : Nat → Int32}
def RS (c : Nat) (sf mf sz : Nat → Int32) : Prop := c ≤ 200 ∧ sz 1 = nI c ∧ ∀ j, j < c → mf (200 + j) = rB sf c j
theorem cl1 : Int32.toNatClampNeg (1 : Int32) = 1 := rfl
theorem in1 : ¬ ((1 : Int32) < 0 ∨ 3 ≤ Int32.toNatClampNeg (1 : Int32)) := by decide
theorem tk_A (h : RS c sf mf sz) {a : Nat} {F : Int32} (hF : OKF F) (hn : ¬ F = -1) : zf_D_take (nI c) 200 sf (nI a) F = some ((0 : Int32), nI a, F) ∧ zf_M_next mf sz (nI a) F = some ((0 : Int32), nI a, F) := by
  constructor
  · unfold zf_D_take
    have e : ∀ u : Int32, zf_D_refuseIf F u (nI c) = some F := by
      intro u
      unfold zf_D_refuseIf
      by_cases w : u = 0
      · rw [if_pos w]
      · rw [if_neg w, if_neg hn]
    split
    · rw [bc1_e, e, bc1_e, if_neg hn]
    · rw [bc1_e, e, bc1_e, if_neg hn]
  · unfold zf_M_next
    simp only [gd_t in1]
    have e : ∀ u x : Int32, zf_M_need F u x = some F := by
      intro u x
      unfold zf_M_need
      rw [if_pos (okf_ge hF hn)]
    split
    · rw [bc1_e, e, bc1_e, if_neg (okf_nlt hF hn)]
    · rw [bc1_e, e, bc1_e, if_neg (okf_nlt hF hn)]
theorem tk_B (h : RS c sf mf sz) {a : Nat} (ha : a < c) : zf_D_take (nI c) 200 sf (nI a) (-1) = some (rB sf c a, nI (a + 1), -1) ∧ zf_M_next mf sz (nI a) (-1) = some (rB sf c a, nI (a + 1), -1) := by
  obtain ⟨h1, h2, h3⟩ := h
  constructor
  · unfold zf_D_take
    rw [if_pos (nI_lt ha (by omega)), bc1_e, rf_0, bc1_e, if_pos rfl, pu_byteAt h1 (by decide) (by omega), bc1_e]
    simp only [bnd]
    rw [nI_1]
  · unfold zf_M_next
    simp only [gd_t in1]
    simp only [cl1, h2]
    rw [if_neg (nI_ge ha (by omega)), bc1_e, nd_1, bc1_e, if_pos (by decide)]
    simp only [bnd]
    rw [nI_1, show (200 : Int32) + nI (a + 1) = nI (200 + (a + 1)) from nI_add 200 (a + 1), show nI (200 + (a + 1)) - (1 : Int32) = nI (200 + a) from pk_sub (b := 1) (by omega), gd_t (nI_in (by omega) (by decide)), nI_clamp (by omega), h3 a ha]
theorem tk_C (h : RS c sf mf sz) : zf_D_take (nI c) 200 sf (nI c) (-1) = some ((0 : Int32), nI c, nI c) ∧ zf_M_next mf sz (nI c) (-1) = some ((0 : Int32), nI c, nI c) := by
  obtain ⟨h1, h2, h3⟩ := h
  constructor
  · unfold zf_D_take
    rw [if_neg (nI_nlt (Nat.le_refl _) (by omega)), bc1_e, rf_1, bc1_e]
    unfold fx
    rw [if_pos rfl, if_neg (ne_m1 (by omega))]
  · unfold zf_M_next
    simp only [gd_t in1]
    simp only [cl1, h2]
    rw [if_pos (nI_le (Nat.le_refl _) (by omega)), bc1_e, nd_0 okf_m1, bc1_e]
    unfold fx
    rw [if_pos rfl, if_neg (nI_pos (by omega))]
theorem tk (h : RS c sf mf sz) {a : Nat} {F : Int32} (ha : a ≤ c) (hF : OKF F) : ∃ v a' F', zf_D_take (nI c) 200 sf (nI a) F = some (nI v, nI a', F') ∧ zf_M_next mf sz (nI a) F = some (nI v, nI a', F') ∧ v < 256 ∧ a ≤ a' ∧ a' ≤ c ∧ OKF F' ∧ (F' = -1 → F = -1 ∧ a' = a + 1) ∧ (¬ F = -1 → F' = F) := by
  by_cases g : F = -1
  · subst g
    by_cases g2 : a < c
    · obtain ⟨e1, e2⟩ := tk_B h g2
      obtain ⟨x, hx, ex⟩ := rB_nat sf c a
      rw [ex] at e1 e2
      exact ⟨x, a + 1, -1, e1, e2, hx, by omega, by omega, okf_m1, fun _ => ⟨rfl, rfl⟩, fun z => absurd rfl z⟩
    · have e : a = c := by omega
      subst e
      obtain ⟨e1, e2⟩ := tk_C h
      exact ⟨0, a, nI a, e1, e2, by decide, by omega, by omega, okf_n (by have := h.1; omega), fun z => absurd z (ne_m1 (by have := h.1; omega)), fun z => absurd rfl z⟩
  · obtain ⟨e1, e2⟩ := tk_A h hF g
    exact ⟨0, a, F, e1, e2, by decide, by omega, ha, hF, fun z => absurd z g, fun _ => rfl⟩
end RD
section RD2
variable {c : Nat} {sf mf sz : Nat → Int32}
theorem ts_stop {n : Nat} {s l tn a : Nat} {F : Int32} (hl : ¬ l = 255) (hl2 : l < 256) (htn : tn < 2 ^ 31) (hc : c ≤ 200) : zf_SR_takeSum_L19 (nI c) 200 sf (n + 1) (nI s) (nI l) (nI tn) (nI a) F = some (nI s, nI l, nI tn, nI a, F) ∧ zf_M_more_L16 mf sz (n + 1) (nI s) (nI l) (nI a) F = some (nI s, nI l, nI a, F) := by
  have e : ¬ nI l = (255 : Int32) := fun z => hl (pz_inj (by omega) (by decide) z)
  constructor
  · rw [zf_SR_takeSum_L19_s, if_neg e]
    split <;> rfl
  · rw [zf_M_more_L16_s, if_neg e]
set_option maxRecDepth 20000 in
theorem ts_loop (h : RS c sf mf sz) : ∀ (d a tn s n : Nat), a + d = c → tn ≤ a → d + 2 < n → ∃ s' a' F' l1 l2 t', zf_SR_takeSum_L19 (nI c) 200 sf n (nI s) (255 : Int32) (nI tn) (nI a) (-1) = some (nI s', l1, t', nI a', F') ∧ zf_M_more_L16 mf sz n (nI s) (255 : Int32) (nI a) (-1) = some (nI s', l2, nI a', F') ∧ a ≤ a' ∧ a' ≤ c ∧ OKF F' ∧ s' ≤ s + 256 * (d + 1)
  | d, a, tn, s, n, hd, ht, hn => by
    obtain ⟨n, rfl⟩ : ∃ z, n = z + 2 := ⟨n - 2, by omega⟩
    have hc := h.1
    obtain ⟨v, a', F', e1, e2, hv, l1, l2, ok, g1, g2⟩ := tk h (a := a) (F := -1) (by omega) okf_m1
    have c1 : zf_SR_takeSum_L19 (nI c) 200 sf (n + 2) (nI s) (255 : Int32) (nI tn) (nI a) (-1) = zf_SR_takeSum_L19 (nI c) 200 sf (n + 1) (nI (s + v)) (nI v) (nI (tn + 1)) (nI a') F' := by
      rw [zf_SR_takeSum_L19_s, if_neg (nI_nlt (by omega) (by omega)), if_pos rfl, e1, bc3_e]
      simp only [bnd]
      rw [nI_add s v, nI_1]
    have c2 : zf_M_more_L16 mf sz (n + 2) (nI s) (255 : Int32) (nI a) (-1) = zf_M_more_L16 mf sz (n + 1) (nI (s + v)) (nI v) (nI a') F' := by
      rw [zf_M_more_L16_s, if_pos rfl, if_neg (by decide), e2, bc3_e]
      simp only [bnd]
      rw [nI_add s v]
    rw [c1, c2]
    by_cases g : v = 255
    · subst g
      by_cases gF : F' = -1
      · obtain ⟨-, ea⟩ := g1 gF
        subst gF
        subst ea
        match d, hd, hn with
        | 0, hd, hn => omega
        | d + 1, hd, hn =>
          obtain ⟨s', a2, F2, m1, m2, t', f1, f2, b1, b2, b3, b4⟩ := ts_loop h d (a + 1) (tn + 1) (s + 255) (n + 1) (by omega) (by omega) (by omega)
          exact ⟨s', a2, F2, m1, m2, t', f1, f2, by omega, b2, b3, by omega⟩
      · exfalso
        by_cases ga : a < c
        · obtain ⟨e3, -⟩ := tk_B h ga
          rw [e1] at e3
          obtain ⟨-, -, q3⟩ := inj3 e3
          exact gF q3
        · have ea : a = c := by omega
          subst ea
          obtain ⟨e3, -⟩ := tk_C h
          rw [e1] at e3
          obtain ⟨q1, -, -⟩ := inj3 e3
          exact absurd (pz_inj (by decide) (by decide) (show nI 255 = nI 0 from q1)) (by decide)
    · obtain ⟨f1, f2⟩ := ts_stop (n := n) (s := s + v) (l := v) (tn := tn + 1) (a := a') (F := F') (c := c) (sf := sf) (mf := mf) (sz := sz) g hv (by omega) hc
      exact ⟨s + v, a', F', _, _, _, f1, f2, l1, l2, ok, by omega⟩
theorem ts (h : RS c sf mf sz) {a x : Nat} {F : Int32} (ha : a ≤ c) (hF : OKF F) (hx : x ≤ 15) : ∃ s a' F', zf_SR_takeSum (nI c) 200 sf (nI a) F (nI x) = some (nI s, nI a', F') ∧ zf_M_more mf sz (nI a) F (nI x) = some (nI s, nI a', F') ∧ s < 2 ^ 20 ∧ a ≤ a' ∧ a' ≤ c ∧ OKF F' ∧ (¬ F = -1 → F' = F) := by
  have hc := h.1
  unfold zf_SR_takeSum zf_M_more
  by_cases g : x = 15
  · subst g
    rw [if_pos (show nI 15 = (15 : Int32) from rfl), bc1_e, bc1_e]
    by_cases gF : F = -1
    · subst gF
      obtain ⟨s', a', F', m1, m2, t', f1, f2, b1, b2, b3, b4⟩ := ts_loop h (c - a) a 0 15 1000 (by omega) (by omega) (by omega)
      refine ⟨s', a', F', ?_, ?_, by omega, b1, b2, b3, fun z => absurd rfl z⟩
      · rw [show (0 : Int32) = nI 0 from rfl, f1, bc5_e]
      · rw [f2, bc4_e]
    · obtain ⟨e1, e2⟩ := tk_A h (a := a) hF gF
      refine ⟨15, a, F, ?_, ?_, by decide, Nat.le_refl _, ha, hF, fun _ => rfl⟩
      · rw [show (1000 : Nat) = 999 + 1 from rfl, zf_SR_takeSum_L19_s, if_neg (show ¬ nI c < (0 : Int32) from nI_nlt (b := 0) (by omega) (by omega)), if_pos rfl, e1, bc3_e]
        simp only [bnd]
        have f1 := (ts_stop (n := 998) (s := 15) (l := 0) (tn := 1) (a := a) (F := F) (c := c) (sf := sf) (mf := mf) (sz := sz) (by decide) (by decide) (by decide) hc).1
        rw [show nI 15 + (0 : Int32) = nI 15 from rfl, show (0 : Int32) + (1 : Int32) = nI 1 from rfl, show (0 : Int32) = nI 0 from rfl, f1, bc5_e]
      · rw [show (1000 : Nat) = 999 + 1 from rfl, zf_M_more_L16_s, if_pos rfl, if_pos (okf_ge hF gF), bc4_e]
  · have e : ¬ nI x = (15 : Int32) := fun z => g (pz_inj (by omega) (by decide) z)
    rw [if_neg e, bc1_e, bc1_e]
    obtain ⟨f1, f2⟩ := ts_stop (n := 999) (s := x) (l := 0) (tn := 0) (a := a) (F := F) (c := c) (sf := sf) (mf := mf) (sz := sz) (by decide) (by decide) (by decide) hc
    refine ⟨x, a, F, ?_, ?_, by omega, Nat.le_refl _, ha, hF, fun _ => rfl⟩
    · rw [show (1000 : Nat) = 999 + 1 from rfl, show (0 : Int32) = nI 0 from rfl, f1, bc5_e]
    · rw [show (1000 : Nat) = 999 + 1 from rfl, show (0 : Int32) = nI 0 from rfl, f2, bc4_e]
end RD2
section RD3
variable {c p : Nat} {sf mf sz pf : Nat → Int32}
def HS (p : Nat) (pf : Nat → Int32) (d : Nat) (df hi : Nat → Int32) : Prop := ∀ j, j < p + d → hi j = hB p pf d df j
theorem HS_push {d x : Nat} {df hi : Nat → Int32} (hx : x < 256) (h : HS p pf d df hi) : HS p pf (d + 1) (upd df d (nI x).toInt8.toInt32) (upd hi (p + d) (nI x)) := by
  intro j hj
  by_cases e : j = p + d
  · subst e
    rw [pk_us]
    unfold hB rB
    rw [if_neg (by omega), show p + d - p = d by omega, if_pos (by omega), pk_us, pz_b, pk_andN (by omega) 8 (by decide), Nat.mod_eq_of_lt (by omega)]
  · rw [pk_un e, h j (by omega)]
    unfold hB rB
    by_cases g : j < p
    · simp only [if_pos g]
    · rw [if_neg g, if_neg g, if_pos (show j - p < d by omega), if_pos (show j - p < d + 1 by omega), pk_un (by omega)]
theorem lt_loop (h : RS c sf mf sz) (hp : p ≤ 64) {N : Nat} (hN : N < 2 ^ 30) : ∀ (e i d a n : Nat) (df hi : Nat → Int32), i + e = N → e + 1 < n → d + e ≤ 160 → a ≤ c → HS p pf d df hi → ∃ (F' : Int32) (a' x : Nat) (i1 i2 en' : Int32) (df' hi' : Nat → Int32), zf_D_copyLiterals_L2 (nI c) 200 sf 160 (nI N) n (nI i) (nI d) df (nI a) (-1) = some (i1, nI x, df', nI a', F') ∧ zf_M_literals_L2 mf sz (nI N) n (nI i) (nI (p + d)) (nI a) (-1) hi = some (i2, en', nI a', F', hi') ∧ a ≤ a' ∧ a' ≤ c ∧ OKF F' ∧ x ≤ 160 ∧ (F' = -1 → x = d + e ∧ en' = nI (p + (d + e)) ∧ HS p pf (d + e) df' hi')
  | 0, i, d, a, n, df, hi, hi', hn, hd, ha, hs => by
    obtain ⟨n, rfl⟩ : ∃ z, n = z + 1 := ⟨n - 1, by omega⟩
    have e : i = N := by omega
    subst e
    refine ⟨-1, a, d, nI i, nI i, nI (p + d), df, hi, ?_, ?_, Nat.le_refl _, ha, okf_m1, by omega, fun _ => ⟨rfl, rfl, hs⟩⟩
    · rw [zf_D_copyLiterals_L2_s, if_pos (nI_le (Nat.le_refl _) (by omega))]
    · rw [zf_M_literals_L2_s, if_pos (nI_le (Nat.le_refl _) (by omega))]
  | e + 1, i, d, a, n, df, hi, hi', hn, hd, ha, hs => by
    obtain ⟨n, rfl⟩ : ∃ z, n = z + 2 := ⟨n - 2, by omega⟩
    have hc := h.1
    obtain ⟨v, a', F', e1, e2, hv, l1, l2, ok, g1, g2⟩ := tk h (a := a) (F := -1) ha okf_m1
    have c1 : zf_D_copyLiterals_L2 (nI c) 200 sf 160 (nI N) (n + 2) (nI i) (nI d) df (nI a) (-1) = zf_D_copyLiterals_L2 (nI c) 200 sf 160 (nI N) (n + 1) (nI (i + 1)) (nI (d + 1)) (upd df d (nI v).toInt8.toInt32) (nI a') F' := by
      rw [zf_D_copyLiterals_L2_s, if_neg (nI_ge (by omega) (by omega))]
      unfold zf_D_refused
      rw [if_pos rfl, bc1_e, if_pos rfl, e1, bc3_e, pu_add (by omega) (by decide), bc2_e]
      simp only [bnd]
      rw [nI_1]
    by_cases gF : F' = -1
    · obtain ⟨-, ea⟩ := g1 gF
      subst gF
      obtain ⟨F2, a2, x, i1, i2, en2, df2, hi2, f1, f2, b1, b2, b3, b4, b5⟩ := lt_loop h hp hN e (i + 1) (d + 1) a' (n + 1) (upd df d (nI v).toInt8.toInt32) (upd hi (p + d) (nI v)) (by omega) (by omega) (by omega) l2 (HS_push hv hs)
      refine ⟨F2, a2, x, i1, i2, en2, df2, hi2, by rw [c1, f1], ?_, by omega, b2, b3, b4, fun z => ?_⟩
      · rw [zf_M_literals_L2_s, if_neg (nI_ge (by omega) (by omega)), if_neg (by decide), e2, bc3_e, if_neg (by decide), gd_t (nI_in (by omega) (by decide))]
        simp only [bnd]
        rw [nI_clamp (by omega), bc2_e, nI_1, nI_1, show p + d + 1 = p + (d + 1) by omega, f2]
      · obtain ⟨q1, q2, q3⟩ := b5 z
        rw [show d + (e + 1) = d + 1 + e by omega]
        exact ⟨q1, q2, q3⟩
    · refine ⟨F', a', d + 1, nI (i + 1), nI (i + 1), nI (p + d), upd df d (nI v).toInt8.toInt32, hi, ?_, ?_, l1, l2, ok, by omega, fun z => absurd z gF⟩
      · rw [c1, zf_D_copyLiterals_L2_s]
        split
        · rfl
        · unfold zf_D_refused
          rw [if_neg gF, bc1_e, if_neg (by decide)]
      · rw [zf_M_literals_L2_s, if_neg (nI_ge (by omega) (by omega)), if_neg (by decide), e2, bc3_e, if_pos (okf_ge ok gF), bc2_e]
        simp only [bnd]
        rw [nI_1, zf_M_literals_L2_s]
        split
        · rfl
        · rw [if_pos (okf_ge ok gF)]
theorem cb_loop (hp : p ≤ 64) {N t : Nat} (hN : N < 2 ^ 30) (ht : 1 ≤ t) : ∀ (e i d n : Nat) (df hi : Nat → Int32), i + e = N → e < n → d + e ≤ 160 → t ≤ p + d → HS p pf d df hi → ∃ df' hi', zf_D_copyBack_L2 160 (nI p) 64 pf (-1) (nI t) (nI N) n (nI i) (nI d) df = some (nI N, nI (d + e), df') ∧ zf_M_copies_L2 (-1) (nI N) (nI t) n (nI i) (nI (p + d)) hi = some (nI N, nI (p + (d + e)), hi') ∧ HS p pf (d + e) df' hi'
  | 0, i, d, n + 1, df, hi, hi', hn, hd, hdt, hs => by
    have e : i = N := by omega
    subst e
    refine ⟨df, hi, ?_, ?_, hs⟩
    · rw [zf_D_copyBack_L2_s, if_pos (nI_le (Nat.le_refl _) (by omega))]
      rfl
    · rw [zf_M_copies_L2_s, if_pos (nI_le (Nat.le_refl _) (by omega))]
      rfl
  | e + 1, i, d, n + 1, df, hi, hi', hn, hd, hdt, hs => by
    obtain ⟨x, hx, ex⟩ := hB_nat p pf d df (p + d - t)
    obtain ⟨df2, hi2, f1, f2, b1⟩ := cb_loop hp hN ht e (i + 1) (d + 1) n (upd df d (nI x).toInt8.toInt32) (upd hi (p + d) (nI x)) (by omega) (by omega) (by omega) (by omega) (HS_push hx hs)
    refine ⟨df2, hi2, ?_, ?_, by rw [show d + (e + 1) = d + 1 + e by omega]; exact b1⟩
    · rw [zf_D_copyBack_L2_s, if_neg (nI_ge (by omega) (by omega))]
      unfold zf_D_refused zf_H_length
      rw [if_pos rfl, bc1_e, if_pos rfl, bc1_e, nI_add p d, pk_sub hdt, pu_hbyteAt hp (by omega) (by decide) (by decide) (by omega), bc1_e, ex, pu_add (by omega) (by decide), bc2_e]
      simp only [bnd]
      rw [nI_1, f1, show d + 1 + e = d + (e + 1) by omega]
    · rw [zf_M_copies_L2_s, if_neg (nI_ge (by omega) (by omega)), if_neg (by decide), pk_sub hdt, gd_t (nI_in (by omega) (by decide)), gd_t (nI_in (by omega) (by decide)), nI_clamp (by omega), nI_clamp (by omega), hs (p + d - t) (by omega), ex]
      simp only [bnd]
      rw [nI_1, nI_1, show p + d + 1 = p + (d + 1) by omega, f2, show p + (d + 1 + e) = p + (d + (e + 1)) by omega]
def SRel (p : Nat) (pf : Nat → Int32) (F dn en : Int32) (df hi : Nat → Int32) (d : Nat) : Prop := OKF F ∧ (∃ x, x ≤ 160 ∧ dn = nI x) ∧ (F = -1 → dn = nI d ∧ en = nI (p + d) ∧ d ≤ 160 ∧ HS p pf d df hi)
theorem cl (h : RS c sf mf sz) (hp : p ≤ 64) {F dn en : Int32} {df hi : Nat → Int32} {d s a : Nat} (hr : SRel p pf F dn en df hi d) (hs : F = -1 → d + s ≤ 160) (hs2 : s < 2 ^ 21) (ha : a ≤ c) : ∃ (F' dn' en' : Int32) (a' : Nat) (df' hi' : Nat → Int32), zf_D_copyLiterals (nI c) 200 sf dn 160 df (nI a) F (nI s) = some (dn', df', nI a', F') ∧ zf_M_literals mf sz hi en (nI a) F (nI s) = some (en', nI a', F', hi') ∧ SRel p pf F' dn' en' df' hi' (d + s) ∧ a ≤ a' ∧ a' ≤ c ∧ (¬ F = -1 → F' = F) := by
  obtain ⟨ok, ⟨x, hx, ex⟩, hr⟩ := hr
  unfold zf_D_copyLiterals zf_M_literals
  by_cases g : F = -1
  · obtain ⟨r1, r2, r3, r4⟩ := hr g
    have hs1 := hs g
    subst g
    subst r1
    subst r2
    obtain ⟨F', a', x', i1, i2, en', df', hi', f1, f2, b1, b2, b3, b4, b5⟩ := lt_loop h hp (N := s) (by omega) s 0 d a 1000 df hi (by omega) (by omega) hs1 ha r4
    refine ⟨F', nI x', en', a', df', hi', ?_, ?_, ⟨b3, ⟨x', b4, rfl⟩, fun z => ?_⟩, b1, b2, fun z => absurd rfl z⟩
    · rw [show (0 : Int32) = nI 0 from rfl, f1, bc5_e]
    · rw [show (0 : Int32) = nI 0 from rfl, f2, bc5_e]
    · obtain ⟨q1, q2, q3⟩ := b5 z
      exact ⟨by rw [q1], q2, by omega, q3⟩
  · refine ⟨F, dn, en, a, df, hi, ?_, ?_, ⟨ok, ⟨x, hx, ex⟩, fun z => absurd z g⟩, Nat.le_refl _, ha, fun _ => rfl⟩
    · rw [show (1000 : Nat) = 999 + 1 from rfl, zf_D_copyLiterals_L2_s]
      split
      · rw [bc5_e]
      · unfold zf_D_refused
        rw [if_neg g, bc1_e, if_neg (by decide), bc5_e]
    · rw [show (1000 : Nat) = 999 + 1 from rfl, zf_M_literals_L2_s]
      split
      · rw [bc5_e]
      · rw [if_pos (okf_ge ok g), bc5_e]
theorem cb (hp : p ≤ 64) {F dn en : Int32} {df hi : Nat → Int32} {d s t : Nat} (hr : SRel p pf F dn en df hi d) (hs : F = -1 → d + s ≤ 160) (hs2 : s < 2 ^ 21) (ht : F = -1 → 1 ≤ t ∧ t ≤ p + d) : ∃ (dn' en' : Int32) (df' hi' : Nat → Int32), zf_D_copyBack dn 160 df (nI p) 64 pf F (nI t) (nI s) = some (dn', df') ∧ zf_M_copies hi en F (nI s) (nI t) = some (en', hi') ∧ SRel p pf F dn' en' df' hi' (d + s) := by
  obtain ⟨ok, ⟨x, hx, ex⟩, hr⟩ := hr
  unfold zf_D_copyBack zf_M_copies
  by_cases g : F = -1
  · obtain ⟨r1, r2, r3, r4⟩ := hr g
    have hs1 := hs g
    obtain ⟨t1, t2⟩ := ht g
    subst g
    subst r1
    subst r2
    obtain ⟨df', hi', f1, f2, b1⟩ := cb_loop hp (N := s) (by omega) t1 s 0 d 1000 df hi (by omega) (by omega) hs1 t2 r4
    refine ⟨nI (d + s), nI (p + (d + s)), df', hi', ?_, ?_, ⟨ok, ⟨d + s, hs1, rfl⟩, fun _ => ⟨rfl, rfl, hs1, b1⟩⟩⟩
    · rw [show (0 : Int32) = nI 0 from rfl, f1, bc3_e]
    · rw [show (0 : Int32) = nI 0 from rfl, f2, bc3_e]
  · refine ⟨dn, en, df, hi, ?_, ?_, ⟨ok, ⟨x, hx, ex⟩, fun z => absurd z g⟩⟩
    · rw [show (1000 : Nat) = 999 + 1 from rfl, zf_D_copyBack_L2_s]
      split
      · rw [bc3_e]
      · unfold zf_D_refused
        rw [if_neg g, bc1_e, if_neg (by decide), bc3_e]
    · rw [show (1000 : Nat) = 999 + 1 from rfl, zf_M_copies_L2_s]
      split
      · rw [bc3_e]
      · rw [if_pos (okf_ge ok g), bc3_e]
end RD3
section RD4
variable {c p : Nat} {sf mf sz pf : Nat → Int32}
theorem rq (hp : p ≤ 64) {F dn en : Int32} {df hi : Nat → Int32} {d s lim x : Nat} (hr : SRel p pf F dn en df hi d) (hs : s < 2 ^ 21) (hl : lim < 2 ^ 21) (hx : x < 2 ^ 31) : ∃ F' : Int32, zf_D_requireRoom dn F (nI s) (nI lim) (nI x) = some F' ∧ (∀ {ρ : Type} (k : Int32 → Option ρ), (bc1 (zf_M_made (nI p) en) fun v => bc1 (if nI lim < (v + nI s) then some (0 : Int32) else some (1 : Int32)) fun u => bc1 (zf_M_need F u (nI x)) k) = k F') ∧ OKF F' ∧ (F' = -1 → F = -1 ∧ d + s ≤ lim) ∧ (¬ F = -1 → F' = F) := by
  obtain ⟨ok, ⟨y, hy, ey⟩, hr⟩ := hr
  unfold zf_D_requireRoom zf_M_made
  by_cases g : F = -1
  · obtain ⟨r1, r2, r3, r4⟩ := hr g
    subst g
    subst r1
    subst r2
    by_cases g2 : d + s ≤ lim
    · refine ⟨-1, ?_, fun k => ?_, okf_m1, fun _ => ⟨rfl, g2⟩, fun z => absurd rfl z⟩
      · rw [nI_add d s, if_pos (nI_le g2 (by omega)), bc1_e, rf_0, bc1_e]
      · rw [bc1_e, show nI (p + d) - nI p = nI d by rw [pk_sub (by omega)]; congr 1; omega, nI_add d s, if_neg (nI_nlt g2 (by omega)), bc1_e, nd_1, bc1_e]
    · refine ⟨nI x, ?_, fun k => ?_, okf_n hx, fun z => absurd z (ne_m1 hx), fun z => absurd rfl z⟩
      · rw [nI_add d s, if_neg (nI_ge (by omega) (by omega)), bc1_e, rf_1, bc1_e]
        rfl
      · rw [bc1_e, show nI (p + d) - nI p = nI d by rw [pk_sub (by omega)]; congr 1; omega, nI_add d s, if_pos (nI_lt (by omega) (by omega)), bc1_e, nd_0 okf_m1, bc1_e]
        rfl
  · refine ⟨F, ?_, fun k => ?_, ok, fun z => absurd z g, fun _ => rfl⟩
    · split
      · rw [bc1_e, rf_0, bc1_e]
      · rw [bc1_e, rf_1, bc1_e]
        unfold fx
        rw [if_neg g]
    · rw [bc1_e]
      split
      · rw [bc1_e, nd_0 ok, bc1_e]
        unfold fx
        rw [if_neg g]
      · rw [bc1_e, nd_1, bc1_e]
theorem rd (hp : p ≤ 64) {F dn en : Int32} {df hi : Nat → Int32} {d t x : Nat} (hr : SRel p pf F dn en df hi d) (ht : t < 2 ^ 30) (hx : x < 2 ^ 31) : ∃ F' : Int32, zf_D_requireDistance dn (nI p) F (nI t) (nI x) = some F' ∧ (∀ {ρ : Type} (k : Int32 → Option ρ), (bc1 (if nI t ≤ 0 then some (0 : Int32) else if en < nI t then some (0 : Int32) else some (1 : Int32)) fun u => bc1 (zf_M_need F u (nI x)) k) = k F') ∧ OKF F' ∧ (F' = -1 → F = -1 ∧ 1 ≤ t ∧ t ≤ p + d) ∧ (¬ F = -1 → F' = F) := by
  obtain ⟨ok, ⟨y, hy, ey⟩, hr⟩ := hr
  unfold zf_D_requireDistance zf_H_length
  by_cases g : F = -1
  · obtain ⟨r1, r2, r3, r4⟩ := hr g
    subst g
    subst r1
    subst r2
    by_cases g0 : t = 0
    · subst g0
      refine ⟨nI x, ?_, fun k => ?_, okf_n hx, fun z => absurd z (ne_m1 hx), fun z => absurd rfl z⟩
      · rw [if_pos (show nI 0 = 0 from rfl), bc1_e, rf_1, bc1_e]
        rfl
      · rw [if_pos (show nI 0 ≤ 0 by decide), bc1_e, nd_0 okf_m1, bc1_e]
        rfl
    · have z1 : ¬ nI t = 0 := nI_ne0 (by omega) (by omega)
      have z2 : ¬ nI t ≤ 0 := nI_nle (by omega) (by omega)
      by_cases g2 : t ≤ p + d
      · refine ⟨-1, ?_, fun k => ?_, okf_m1, fun _ => ⟨rfl, by omega, g2⟩, fun z => absurd rfl z⟩
        · rw [if_neg z1, bc1_e, nI_add p d, if_pos (nI_le g2 (by omega)), bc1_e, rf_0, bc1_e]
        · rw [if_neg z2, if_neg (nI_nlt g2 (by omega)), bc1_e, nd_1, bc1_e]
      · refine ⟨nI x, ?_, fun k => ?_, okf_n hx, fun z => absurd z (ne_m1 hx), fun z => absurd rfl z⟩
        · rw [if_neg z1, bc1_e, nI_add p d, if_neg (nI_ge (by omega) (by omega)), bc1_e, rf_1, bc1_e]
          rfl
        · rw [if_neg z2, if_pos (nI_lt (by omega) (by omega)), bc1_e, nd_0 okf_m1, bc1_e]
          rfl
  · have q0 : ∀ u z : Int32, zf_D_refuseIf F u z = some F := by
      intro u z
      unfold zf_D_refuseIf
      by_cases w : u = 0
      · rw [if_pos w]
      · rw [if_neg w, if_neg g]
    have q1 : ∀ u z : Int32, zf_M_need F u z = some F := by
      intro u z
      unfold zf_M_need
      rw [if_pos (okf_ge ok g)]
    refine ⟨F, ?_, fun k => ?_, ok, fun z => absurd z g, fun _ => rfl⟩
    · rw [bc1_e]
      split
      · rw [bc1_e, q0, bc1_e]
      · split
        · rw [bc1_e, q0, bc1_e]
        · rw [bc1_e, q0, bc1_e]
    · split
      · rw [bc1_e, q1, bc1_e]
      · split
        · rw [bc1_e, q1, bc1_e]
        · rw [bc1_e, q1, bc1_e]
theorem or8 {x y : Nat} (hx : x < 256) (hy : y < 256) : nI x ||| (nI y <<< ((8 : Int32) &&& 31)) = nI (x + y * 256) := by
  rw [pk_shlN (n := y) _ 8 (by decide) (by omega), pz_or, pz_or_add (k := 8) (by omega)]
theorem shr4 {v : Nat} (hv : v < 256) : nI v >>> ((4 : Int32) &&& 31) = nI (v / 16) := pk_shrN (by omega) _ 4 (by decide)
theorem and15 {v : Nat} (hv : v < 256) : nI v &&& (15 : Int32) = nI (v % 16) := pk_andN (by omega) 4 (by decide)
theorem rfd0 : zf_D_refused (-1) = some (0 : Int32) := rfl
theorem rfd1 {F : Int32} (h : ¬ F = -1) : zf_D_refused F = some (1 : Int32) := by unfold zf_D_refused; rw [if_neg h]
theorem rs_pair (h : RS c sf mf sz) (hp : p ≤ 64) {d a n : Nat} {df hi : Nat → Int32} (ha : a ≤ c) (hd : d ≤ 160) (hs : HS p pf d df hi) : ∃ (m F' dn' en' on' : Int32) (a' d' : Nat) (df' hi' : Nat → Int32), zf_SR_readSequence (nI c) 200 sf (nI d) 160 df (nI p) 64 pf (nI a) (-1) = some (m, dn', df', nI a', F') ∧ zf_M_readZero_L2 mf sz (nI p) (n + 1) (1 : Int32) (nI (p + d)) (nI a) (-1) hi = zf_M_readZero_L2 mf sz (nI p) n on' en' (nI a') F' hi' ∧ SRel p pf F' dn' en' df' hi' d' ∧ a' ≤ c ∧ ((m = 1 ∧ on' = 1 ∧ F' = -1 ∧ a + 1 ≤ a') ∨ (m = 0 ∧ (on' = 0 ∨ ¬ F' = -1))) := by
  have hc := h.1
  have hsz := h.2.1
  obtain ⟨v, a1, F1, e1, e2, hv, b1, b2, ok1, g1, -⟩ := tk h (a := a) (F := -1) ha okf_m1
  obtain ⟨s, a2, F2, e3, e4, hs2, b3, b4, ok2, g2⟩ := ts h (a := a1) (F := F1) (x := v / 16) b2 ok1 (by omega)
  have R0 : SRel p pf F2 (nI d) (nI (p + d)) df hi d := ⟨ok2, ⟨d, hd, rfl⟩, fun _ => ⟨rfl, rfl, hd, hs⟩⟩
  obtain ⟨F3, e5, e6, ok3, g3, g3'⟩ := rq hp (x := a) (lim := 160) (s := s) R0 (by omega) (by decide) (by omega)
  have R1 : SRel p pf F3 (nI d) (nI (p + d)) df hi d := ⟨ok3, ⟨d, hd, rfl⟩, fun _ => ⟨rfl, rfl, hd, hs⟩⟩
  obtain ⟨F4, dn4, en4, a4, df4, hi4, e7, e8, R4, b5, b6, g4⟩ := cl h hp (s := s) R1 (fun z => (g3 z).2) (by omega) b4
  have ok4 := R4.1
  unfold zf_SR_readSequence
  rw [e1, bc3_e, shr4 hv, e3, bc3_e, show (160 : Int32) = nI 160 from rfl, e5, bc1_e, e7, bc4_e]
  rw [zf_M_readZero_L2_s, if_neg (show ¬ (1 : Int32) = 0 by decide), if_neg (show ¬ (0 : Int32) ≤ -1 by decide), e2, bc3_e, shr4 hv, e4, bc3_e, show (160 : Int32) = nI 160 from rfl, e6, e8, bc4_e, gd_t in1, cl1, hsz]
  by_cases gF : F4 = -1
  · subst gF
    obtain ⟨r1, r2, r3, r4⟩ := R4.2.2 rfl
    subst r1
    subst r2
    have hF3 : F3 = -1 := Classical.byContradiction fun z => z (g4 z).symm
    have hF2 := (g3 hF3).1
    have hF1 : F1 = -1 := Classical.byContradiction fun z => by have := g2 z; rw [hF2] at this; exact z this.symm
    obtain ⟨-, ea1⟩ := g1 hF1
    rw [rfd0, bc1_e, if_pos rfl]
    by_cases gE : a4 < c
    · -- the match
      unfold zf_D_atEnd
      rw [if_pos (nI_lt gE (by omega)), bc1_e, if_pos rfl, if_neg (nI_ge gE (by omega)), bc1_e, if_neg (show ¬ (1 : Int32) = 0 by decide), if_neg (show ¬ (0 : Int32) ≤ -1 by decide)]
      obtain ⟨lo, a5, F5, x1, x2, hlo, b7, b8, ok5, g5, -⟩ := tk h (a := a4) (F := -1) b6 okf_m1
      obtain ⟨hb, a6, F6, x3, x4, hhb, b9, b10, ok6, g6, g6'⟩ := tk h (a := a5) (F := F5) b8 ok5
      have R5 : SRel p pf F6 (nI (d + s)) (nI (p + (d + s))) df4 hi4 (d + s) := ⟨ok6, ⟨d + s, r3, rfl⟩, fun _ => ⟨rfl, rfl, r3, r4⟩⟩
      obtain ⟨F7, x5, x6, ok7, g7, g7'⟩ := rd hp (t := lo + hb * 256) (x := a4) R5 (by omega) (by omega)
      obtain ⟨s2, a8, F8, x7, x8, hs8, b11, b12, ok8, g8⟩ := ts h (a := a6) (F := F7) (x := v % 16) b10 ok7 (by omega)
      have R6 : SRel p pf F8 (nI (d + s)) (nI (p + (d + s))) df4 hi4 (d + s) := ⟨ok8, ⟨d + s, r3, rfl⟩, fun _ => ⟨rfl, rfl, r3, r4⟩⟩
      obtain ⟨F9, x9, x10, ok9, g9, g9'⟩ := rq hp (x := a) (lim := 160) (s := s2 + 4) R6 (by omega) (by decide) (by omega)
      have R7 : SRel p pf F9 (nI (d + s)) (nI (p + (d + s))) df4 hi4 (d + s) := ⟨ok9, ⟨d + s, r3, rfl⟩, fun _ => ⟨rfl, rfl, r3, r4⟩⟩
      have hF8 : F9 = -1 → F7 = -1 := fun z => by
        have q := (g9 z).1
        exact Classical.byContradiction fun w => by have := g8 w; rw [q] at this; exact w this.symm
      obtain ⟨dn9, en9, df9, hi9, x11, x12, R9⟩ := cb hp (s := s2 + 4) (t := lo + hb * 256) R7 (fun z => (g9 z).2) (by omega) (fun z => (g7 (hF8 z)).2)
      unfold zf_D_takeTwo
      rw [x1, bc3_e, x3, bc3_e, bc3_e, or8 hlo hhb, x5, bc1_e, and15 hv, x7, bc3_e]
      simp only [bnd]
      rw [show nI s2 + (4 : Int32) = nI (s2 + 4) from nI_add s2 4, x9, bc1_e, x11, bc2_e]
      rw [x2, bc3_e, x4, bc3_e, or8 hlo hhb, x6, x8, bc3_e, show nI s2 + (4 : Int32) = nI (s2 + 4) from nI_add s2 4, x10, x12, bc2_e, bc4_e]
      by_cases gG : F9 = -1
      · subst gG
        rw [rfd0, bc1_e, if_pos rfl]
        exact ⟨_, _, _, _, _, a8, _, _, _, rfl, rfl, R9, b12, Or.inl ⟨rfl, rfl, rfl, by omega⟩⟩
      · rw [rfd1 gG, bc1_e, if_neg (by decide)]
        exact ⟨_, _, _, _, _, a8, _, _, _, rfl, rfl, R9, b12, Or.inr ⟨rfl, Or.inr gG⟩⟩
    · have ee : a4 = c := by omega
      subst ee
      unfold zf_D_atEnd
      rw [if_neg (nI_nlt (Nat.le_refl _) (by omega)), bc1_e, if_neg (by decide), if_pos (nI_le (Nat.le_refl _) (by omega)), bc1_e, if_pos rfl, bc4_e]
      exact ⟨_, _, _, _, _, a4, _, _, _, rfl, rfl, R4, b6, Or.inr ⟨rfl, Or.inl rfl⟩⟩
  · rw [rfd1 gF, bc1_e, if_neg (by decide)]
    refine ⟨(0 : Int32), F4, dn4, en4, (if nI c ≤ nI a4 then (0 : Int32) else (1 : Int32)), a4, d + s, df4, hi4, rfl, ?_, R4, b6, Or.inr ⟨rfl, Or.inr gF⟩⟩
    split
    · rw [bc1_e, if_pos rfl, bc4_e]
    · rw [bc1_e, if_neg (by decide), if_pos (okf_ge ok4 gF), bc4_e]
theorem rz_end {n : Nat} {on en F : Int32} {a : Nat} {hi : Nat → Int32} (hF : OKF F) (h : on = 0 ∨ ¬ F = -1) : zf_M_readZero_L2 mf sz (nI p) (n + 1) on en (nI a) F hi = some (on, en, nI a, F, hi) := by
  rw [zf_M_readZero_L2_s]
  by_cases g : on = 0
  · rw [if_pos g]
  · rw [if_neg g, if_pos (okf_ge hF (h.resolve_left g))]
theorem rz_loop (h : RS c sf mf sz) (hp : p ≤ 64) : ∀ (e a tn d n : Nat) (df hi : Nat → Int32), c ≤ a + e → a ≤ c → tn ≤ a → e + 2 < n → d ≤ 160 → HS p pf d df hi → ∃ (F' dn' en' on' m' t' : Int32) (a' d' : Nat) (df' hi' : Nat → Int32), zf_SR_readAll_L4 (nI c) 200 sf 160 (nI p) 64 pf n (1 : Int32) (nI tn) (nI d) df (nI a) (-1) = some (m', t', dn', df', nI a', F') ∧ zf_M_readZero_L2 mf sz (nI p) n (1 : Int32) (nI (p + d)) (nI a) (-1) hi = some (on', en', nI a', F', hi') ∧ SRel p pf F' dn' en' df' hi' d'
  | e, a, tn, d, n, df, hi, ha, hac, ht, hn, hd, hs => by
    obtain ⟨n, rfl⟩ : ∃ z, n = z + 2 := ⟨n - 2, by omega⟩
    have hc := h.1
    obtain ⟨m, F', dn', en', on', a', d', df', hi', e1, e2, R, b1, b2⟩ := rs_pair h hp (n := n + 1) (by omega : a ≤ c) hd hs
    have c1 : zf_SR_readAll_L4 (nI c) 200 sf 160 (nI p) 64 pf (n + 2) (1 : Int32) (nI tn) (nI d) df (nI a) (-1) = zf_SR_readAll_L4 (nI c) 200 sf 160 (nI p) 64 pf (n + 1) m (nI (tn + 1)) dn' df' (nI a') F' := by
      rw [zf_SR_readAll_L4_s, if_neg (nI_nlt (by omega) (by omega)), if_neg (by decide), e1, bc5_e]
      simp only [bnd]
      rw [nI_1]
    rcases b2 with ⟨q1, q2, q3, q4⟩ | ⟨q1, q2⟩
    · subst q1
      subst q2
      subst q3
      obtain ⟨r1, r2, r3, r4⟩ := R.2.2 rfl
      subst r1
      subst r2
      match e, ha, hn with
      | 0, ha, hn => omega
      | e + 1, ha, hn =>
        obtain ⟨F2, dn2, en2, on2, m2, t2, a2, d2, df2, hi2, f1, f2, R2⟩ := rz_loop h hp e a' (tn + 1) d' (n + 1) df' hi' (by omega) b1 (by omega) (by omega) r3 r4
        exact ⟨F2, dn2, en2, on2, m2, t2, a2, d2, df2, hi2, by rw [c1, f1], by rw [e2, f2], R2⟩
    · subst q1
      refine ⟨F', dn', en', on', (0 : Int32), nI (tn + 1), a', d', df', hi', ?_, by rw [e2, rz_end R.1 q2], R⟩
      rw [c1, zf_SR_readAll_L4_s]
      split
      · rfl
      · rw [if_pos rfl]
theorem rz_all (h : RS c sf mf sz) (hp : p ≤ 64) {df hi : Nat → Int32} (hs : HS p pf 0 df hi) : ∃ (F' dn' en' : Int32) (a' d' : Nat) (df' hi' : Nat → Int32), zf_SR_readAll (nI c) 200 sf (0 : Int32) 160 df (nI p) 64 pf (0 : Int32) (-1) = some (dn', df', nI a', F') ∧ zf_M_readZero mf sz hi (nI p) (nI p) (0 : Int32) (-1) = some (en', nI a', F', hi') ∧ SRel p pf F' dn' en' df' hi' d' := by
  have hc := h.1
  obtain ⟨F', dn', en', on', m', t', a', d', df', hi', f1, f2, R⟩ := rz_loop h hp c 0 0 0 1000 df hi (by omega) (by omega) (by omega) (by omega) (by omega) hs
  refine ⟨F', dn', en', a', d', df', hi', ?_, ?_, R⟩
  · unfold zf_SR_readAll
    rw [show (0 : Int32) = nI 0 from rfl, f1, bc6_e]
  · unfold zf_M_readZero
    rw [show (0 : Int32) = nI 0 from rfl]
    have f3 : zf_M_readZero_L2 mf sz (nI p) 1000 (1 : Int32) (nI p) (nI 0) (-1) hi = some (on', en', nI a', F', hi') := f2
    rw [f3, bc5_e]
end RD4
