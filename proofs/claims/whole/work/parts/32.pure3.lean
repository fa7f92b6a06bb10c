/-! Pure facts: the table of places, the length of a match, the packer's loop. -/
theorem pz_or (a b : Nat) : nI a ||| nI b = nI (a ||| b) := by
  apply Int32.toBitVec_inj.1
  show BitVec.ofNat 32 a ||| BitVec.ofNat 32 b = BitVec.ofNat 32 (a ||| b)
  apply BitVec.eq_of_getLsbD_eq
  intro i hi
  simp [hi]
theorem pz_or_add {x y k : Nat} (hx : x < 2 ^ k) : x ||| y * 2 ^ k = x + y * 2 ^ k := by
  have h := Nat.shiftLeft_add_eq_or_of_lt hx y
  rw [Nat.shiftLeft_eq] at h
  rw [Nat.or_comm, ← h, Nat.add_comm]
theorem i4_nat {x y z w : Nat} (hx : x < 256) (hy : y < 256) (hz : z < 256) (hw : w < 256) : i4 (nI x) (nI y) (nI z) (nI w) = nI (x + y * 256 + z * 65536 + w * 16777216) := by
  unfold i4
  rw [pk_shlN (n := y) _ 8 (by decide) (by omega), pk_shlN (n := z) _ 16 (by decide) (by omega), pk_shlN (n := w) _ 24 (by decide) (by omega), pz_or, pz_or, pz_or]
  rw [pz_or_add (k := 8) (by omega), pz_or_add (k := 16) (by omega), pz_or_add (k := 24) (by omega)]
theorem pz_inj {a b : Nat} (ha : a < 2 ^ 32) (hb : b < 2 ^ 32) (h : nI a = nI b) : a = b := by
  have this : (nI a).toBitVec.toNat = (nI b).toBitVec.toNat := by rw [h]
  rw [pk_tn ha, pk_tn hb] at this
  exact this
theorem rB_nat (f : Nat → Int32) (c k : Nat) : ∃ x, x < 256 ∧ rB f c k = nI x := by
  unfold rB
  by_cases h : k < c
  · rw [if_pos h]
    exact ⟨_, Nat.mod_lt _ (by decide), pk_and (f k) 8 (by decide)⟩
  · rw [if_neg h]
    exact ⟨0, by decide, rfl⟩
theorem hB_nat (p : Nat) (pf : Nat → Int32) (q : Nat) (qf : Nat → Int32) (k : Nat) : ∃ x, x < 256 ∧ hB p pf q qf k = nI x := by
  unfold hB
  by_cases h : k < p
  · rw [if_pos h]; exact rB_nat _ _ _
  · rw [if_neg h]; exact rB_nat _ _ _
theorem h4_inj {g : Nat → Int32} (hg : ∀ k, ∃ x, x < 256 ∧ g k = nI x) {a b : Nat} (h : h4 g a = h4 g b) : ∀ i, i < 4 → g (a + i) = g (b + i) := by
  obtain ⟨a0, l0, e0⟩ := hg a
  obtain ⟨a1, l1, e1⟩ := hg (a + 1)
  obtain ⟨a2, l2, e2⟩ := hg (a + 2)
  obtain ⟨a3, l3, e3⟩ := hg (a + 3)
  obtain ⟨b0, m0, f0⟩ := hg b
  obtain ⟨b1, m1, f1⟩ := hg (b + 1)
  obtain ⟨b2, m2, f2⟩ := hg (b + 2)
  obtain ⟨b3, m3, f3⟩ := hg (b + 3)
  unfold h4 at h
  rw [e0, e1, e2, e3, f0, f1, f2, f3, i4_nat l0 l1 l2 l3, i4_nat m0 m1 m2 m3] at h
  have h := pz_inj (by omega) (by omega) h
  intro i hi
  match i, hi with
  | 0, _ => rw [Nat.add_zero, Nat.add_zero, e0, f0]; congr 1; omega
  | 1, _ => rw [e1, f1]; congr 1; omega
  | 2, _ => rw [e2, f2]; congr 1; omega
  | 3, _ => rw [e3, f3]; congr 1; omega
theorem tb_class : ∀ (d i n : Nat) (t : Nat → Int32), i + d = 32 → d < n → ∃ t', zf_P_learnPast_L2 n (nI i) t = some (nI 32, t') ∧ (∀ j, i ≤ j → j < 32 → t' j = -1) ∧ (∀ j, j < i → t' j = t j)
  | 0, i, n + 1, t, e, _ => by
    have e : i = 32 := by omega
    subst e
    exact ⟨t, by rw [zf_P_learnPast_L2_s, if_pos (show Int32.ofNat 32 ≤ nI 32 from nI_le (a := 32) (b := 32) (Nat.le_refl _) (by decide))], fun j h1 h2 => by omega, fun _ _ => rfl⟩
  | d + 1, i, n + 1, t, e, hn => by
    obtain ⟨t', e1, a1, a2⟩ := tb_class d (i + 1) n (upd t i (-1)) (by omega) (by omega)
    refine ⟨t', ?_, fun j h1 h2 => ?_, fun j h1 => ?_⟩
    · rw [zf_P_learnPast_L2_s, if_neg (show ¬ Int32.ofNat 32 ≤ nI i from nI_ge (b := 32) (by omega) (by decide)), gd_t (nI_in (by omega) (by decide))]
      simp only [bnd]
      rw [nI_clamp (by omega), nI_1, e1]
    · by_cases c : j = i
      · subst c
        rw [a2 j (by omega), pk_us]
      · exact a1 j (by omega) h2
    · rw [a2 j (by omega), pk_un (by omega)]
theorem tb_model : ∀ (d i n : Nat) (t : Nat → Int32), i + d = 32 → d < n → ∃ t', zf_M_packs_L2 n (nI i) t = some (nI 32, t') ∧ (∀ j, i ≤ j → j < 32 → t' j = -1) ∧ (∀ j, j < i → t' j = t j)
  | 0, i, n + 1, t, e, _ => by
    have e : i = 32 := by omega
    subst e
    exact ⟨t, by rw [zf_M_packs_L2_s, if_pos (show (32 : Int32) ≤ nI 32 from nI_le (a := 32) (b := 32) (Nat.le_refl _) (by decide))], fun j h1 h2 => by omega, fun _ _ => rfl⟩
  | d + 1, i, n + 1, t, e, hn => by
    obtain ⟨t', e1, a1, a2⟩ := tb_model d (i + 1) n (upd t i (-1)) (by omega) (by omega)
    refine ⟨t', ?_, fun j h1 h2 => ?_, fun j h1 => ?_⟩
    · rw [zf_M_packs_L2_s, if_neg (show ¬ (32 : Int32) ≤ nI i from nI_ge (b := 32) (by omega) (by decide)), gd_t (nI_in (by omega) (by decide))]
      simp only [bnd]
      rw [nI_clamp (by omega), nI_1, e1]
    · by_cases c : j = i
      · subst c
        rw [a2 j (by omega), pk_us]
      · exact a1 j (by omega) h2
    · rw [a2 j (by omega), pk_un (by omega)]
def TT (t1 t2 : Nat → Int32) : Prop := ∀ j, j < 32 → t1 j = t2 j
def TV (h : Nat) (t : Nat → Int32) : Prop := ∀ j, j < 32 → t j = -1 ∨ ∃ k, k < h ∧ t j = nI k
theorem TT_upd {t1 t2 : Nat → Int32} {i : Nat} {x : Int32} (h : TT t1 t2) : TT (upd t1 i x) (upd t2 i x) := by
  intro j hj
  by_cases c : j = i
  · subst c; rw [pk_us, pk_us]
  · rw [pk_un c, pk_un c]; exact h j hj
theorem TV_upd {t : Nat → Int32} {i k h : Nat} (hk : k < h) (hv : TV k t) : TV h (upd t i (nI k)) := by
  intro j hj
  by_cases c : j = i
  · subst c; exact Or.inr ⟨k, hk, pk_us⟩
  · rw [pk_un c]
    rcases hv j hj with e | ⟨x, hx, e⟩
    · exact Or.inl e
    · exact Or.inr ⟨x, by omega, e⟩
theorem TV_mono {t : Nat → Int32} {a b : Nat} (h : a ≤ b) (hv : TV a t) : TV b t := by
  intro j hj
  rcases hv j hj with e | ⟨x, hx, e⟩
  · exact Or.inl e
  · exact Or.inr ⟨x, by omega, e⟩
section HP
variable {p q : Nat} {pf qf hi : Nat → Int32}
theorem ln_pair (hp : p ≤ 64) (hq : q ≤ 160) (hh : ∀ j, j < p + q → hi j = hB p pf q qf j) : ∀ (d i n : Nat) (t1 t2 : Nat → Int32), p ≤ i + d → d < n → i ≤ p → TT t1 t2 → TV i t1 → ∃ i' t1' t2', zf_P_learnPast_L26 (nI p) 64 pf (nI q) 160 qf n (nI i) t1 = some (nI i', t1') ∧ zf_M_packs_L23 hi (nI p) n (nI i) t2 = some (nI i', t2') ∧ TT t1' t2' ∧ TV p t1'
  | d, i, n + 1, t1, t2, hd, hn, hi', ht, hv => by
    by_cases c : p < i + 4
    · refine ⟨i, t1, t2, ?_, ?_, ht, TV_mono hi' hv⟩
      · rw [zf_P_learnPast_L26_s, show nI i + (4 : Int32) = nI (i + 4) from nI_add i 4, if_pos (nI_lt c (by omega))]
      · rw [zf_M_packs_L23_s, show nI i + (4 : Int32) = nI (i + 4) from nI_add i 4, if_pos (nI_lt c (by omega))]
    · match d, hd, hn with
      | 0, hd, hn => omega
      | d + 1, hd, hn =>
        obtain ⟨j, hj, ej⟩ := slt_lt (h4 (hB p pf q qf) i)
        obtain ⟨i', t1', t2', e1, e2, a1, a2⟩ := ln_pair hp hq hh d (i + 1) n (upd t1 j (nI i)) (upd t2 j (nI i)) (by omega) (by omega) (by omega) (TT_upd ht) (TV_upd (by omega) hv)
        refine ⟨i', t1', t2', ?_, ?_, a1, a2⟩
        · rw [zf_P_learnPast_L26_s, show nI i + (4 : Int32) = nI (i + 4) from nI_add i 4, if_neg (nI_nlt (by omega) (by omega)), pu_exchange hp hq (by decide) (by decide) (by omega) hj ej, bc2_e]
          simp only [bnd]
          rw [nI_1, e1]
        · rw [zf_M_packs_L23_s, show nI i + (4 : Int32) = nI (i + 4) from nI_add i 4, if_neg (nI_nlt (by omega) (by omega)), show zf_M_slot hi (nI i) = some (nI j) by rw [pm_slot (by omega), h4_congr hh (by omega), ej], bc1_e, gd_t (nI_in hj (by omega))]
          simp only [bnd]
          rw [nI_clamp (by omega), nI_1, e2]
theorem ml_pair (hp : p ≤ 64) (hq : q ≤ 160) (hh : ∀ j, j < p + q → hi j = hB p pf q qf j) {c h B : Nat} (hc : c < h) (hB' : h + B + 5 = p + q) : ∀ (d i n : Nat), i + d = B → d < n → ∃ m, i ≤ m ∧ m ≤ B ∧ zf_P_matchLength_L15 (nI p) 64 pf (nI q) 160 qf (nI c) (nI h) (nI B) n (nI i) = some (nI m) ∧ zf_M_same_L2 hi (nI (p + q)) (nI c) (nI h) n (nI i) = some (nI m) ∧ (m < B → hB p pf q qf (c + m) ≠ hB p pf q qf (h + m))
  | 0, i, n + 1, e, _ => by
    have e : i = B := by omega
    subst e
    refine ⟨i, Nat.le_refl _, Nat.le_refl _, ?_, ?_, fun z => by omega⟩
    · rw [zf_P_matchLength_L15_s, if_pos (nI_le (Nat.le_refl _) (by omega))]
    · rw [zf_M_same_L2_s, show nI (p + q) - (5 : Int32) = nI (p + q - 5) from pk_sub (b := 5) (by omega), nI_add h i, if_pos (nI_le (by omega) (by omega))]
  | d + 1, i, n + 1, e, hn => by
    have s1 : zf_P_matchLength_L15 (nI p) 64 pf (nI q) 160 qf (nI c) (nI h) (nI B) (n + 1) (nI i) = if hB p pf q qf (c + i) = hB p pf q qf (h + i) then zf_P_matchLength_L15 (nI p) 64 pf (nI q) 160 qf (nI c) (nI h) (nI B) n (nI (i + 1)) else some (nI i) := by
      rw [zf_P_matchLength_L15_s, if_neg (nI_ge (by omega) (by omega)), nI_add c i, nI_add h i, pu_hbyteAt hp hq (by decide) (by decide) (by omega), bc1_e, pu_hbyteAt hp hq (by decide) (by decide) (by omega), bc1_e]
      simp only [bnd]
      rw [nI_1]
    have s2 : zf_M_same_L2 hi (nI (p + q)) (nI c) (nI h) (n + 1) (nI i) = if hB p pf q qf (c + i) = hB p pf q qf (h + i) then zf_M_same_L2 hi (nI (p + q)) (nI c) (nI h) n (nI (i + 1)) else some (nI i) := by
      rw [zf_M_same_L2_s, show nI (p + q) - (5 : Int32) = nI (p + q - 5) from pk_sub (b := 5) (by omega), nI_add h i, nI_add c i, if_neg (nI_ge (by omega) (by omega)), gd_t (nI_in (by omega) (by decide)), gd_t (nI_in (by omega) (by decide)), nI_clamp (by omega), nI_clamp (by omega), hh (c + i) (by omega), hh (h + i) (by omega)]
      simp only [bnd]
      rw [nI_1]
    by_cases g : hB p pf q qf (c + i) = hB p pf q qf (h + i)
    · obtain ⟨m, a1, a2, e1, e2, a3⟩ := ml_pair hp hq hh hc hB' d (i + 1) n (by omega) (by omega)
      exact ⟨m, by omega, a2, by rw [s1, if_pos g, e1], by rw [s2, if_pos g, e2], a3⟩
    · exact ⟨i, Nat.le_refl _, by omega, by rw [s1, if_neg g], by rw [s2, if_neg g], fun _ => g⟩
theorem ml_all (hp : p ≤ 64) (hq : q ≤ 160) (hh : ∀ j, j < p + q → hi j = hB p pf q qf j) {c h : Nat} (hc : c < h) (hl : h + 12 ≤ p + q) (he : h4 (hB p pf q qf) c = h4 (hB p pf q qf) h) : ∃ m, 4 ≤ m ∧ h + m + 5 ≤ p + q ∧ zf_P_matchLength (nI p) 64 pf (nI q) 160 qf (nI c) (nI h) = some (nI m) ∧ zf_M_same hi (nI (p + q)) (nI c) (nI h) = some (nI m) := by
  obtain ⟨m, -, a2, e1, e2, a3⟩ := ml_pair hp hq hh (B := p + q - 5 - h) hc (by omega) (p + q - 5 - h) 0 1000 (by omega) (by omega)
  refine ⟨m, ?_, by omega, ?_, ?_⟩
  · apply Nat.le_of_not_lt
    intro z
    exact a3 (by omega) (h4_inj (hB_nat p pf q qf) he m z)
  · unfold zf_P_matchLength zf_H_length
    simp only [bnd, bc1_e, bc1_id]
    rw [nI_add p q, show nI (p + q) - (5 : Int32) = nI (p + q - 5) from pk_sub (b := 5) (by omega), pk_sub (by omega)]
    exact e1
  · unfold zf_M_same
    rw [bc1_id]
    exact e2
end HP
