/-! Pure facts: what is written into the packed row, class and reference side by side. -/
def RO (o : Nat) (of mf : Nat → Int32) : Prop := ∀ j, j < o → mf (200 + j) = of j &&& 255
def KO (mf mf' : Nat → Int32) : Prop := ∀ j, (j < 200 ∨ 400 ≤ j) → mf' j = mf j
theorem KO_r (mf : Nat → Int32) : KO mf mf := fun _ _ => rfl
theorem KO_t {a b c : Nat → Int32} (h : KO a b) (g : KO b c) : KO a c := fun j hj => (g j hj).trans (h j hj)
def EP (ca mo : Option (Int32 × (Nat → Int32))) (o' : Nat) (mf : Nat → Int32) : Prop := ∃ of' mf', ca = some (nI o', of') ∧ mo = some (nI o', mf') ∧ RO o' of' mf' ∧ KO mf mf'
theorem ep_bind {ca mo : Option (Int32 × (Nat → Int32))} {k1 k2 : Int32 → (Nat → Int32) → Option (Int32 × (Nat → Int32))} {o1 o2 : Nat} {mf : Nat → Int32} (h1 : EP ca mo o1 mf) (h2 : ∀ of1 mf1, RO o1 of1 mf1 → EP (k1 (nI o1) of1) (k2 (nI o1) mf1) o2 mf1) : EP (bc2 ca k1) (bc2 mo k2) o2 mf := by
  obtain ⟨of1, mf1, e1, e2, r1, k1'⟩ := h1
  obtain ⟨of2, mf2, e3, e4, r2, k2'⟩ := h2 of1 mf1 r1
  exact ⟨of2, mf2, by rw [e1, bc2_e, e3], by rw [e2, bc2_e, e4], r2, KO_t k1' k2'⟩
theorem ep_ret {o : Nat} {of mf : Nat → Int32} (h : RO o of mf) : EP (some (nI o, of)) (some (nI o, mf)) o mf := ⟨of, mf, rfl, rfl, h, KO_r mf⟩
theorem ep_o {ca mo : Option (Int32 × (Nat → Int32))} {a b : Nat} {mf : Nat → Int32} (e : a = b) (h : EP ca mo a mf) : EP ca mo b mf := e ▸ h
theorem ep_add {o : Nat} {of mf : Nat → Int32} {b b' : Int32} (ho : o < 200) (h : RO o of mf) (hb : b &&& 255 = b' &&& 255) : EP (zf_R_add (nI o) 200 of b) (zf_M_emit mf (nI o) b') (o + 1) mf := by
  refine ⟨upd of o b.toInt8.toInt32, upd mf (200 + o) (b' &&& 255), pu_add ho (by decide), ?_, ?_, ?_⟩
  · unfold zf_M_emit
    rw [show (200 : Int32) + nI o = nI (200 + o) from nI_add 200 o, gd_t (nI_in (by omega) (by decide))]
    simp only [bnd]
    rw [nI_clamp (by omega), nI_1]
  · intro j hj
    by_cases e : j = o
    · subst e
      rw [pk_us, pk_us, pz_b, hb]
    · rw [pk_un (by omega), pk_un e]
      exact h j (by omega)
  · intro j hj
    exact pk_un (by omega)
def cs (v : Nat) : Nat := if v < 15 then 0 else 1
theorem ep_more {o v : Nat} {of mf : Nat → Int32} (hv : v < 270) (ho : o + cs v ≤ 200) (h : RO o of mf) : EP (zf_SW_writeSum (nI o) 200 of (nI v)) (zf_M_emitMore mf (nI o) (nI v)) (o + cs v) mf := by
  unfold zf_SW_writeSum zf_M_emitMore
  unfold cs at ho ⊢
  by_cases c : v < 15
  · rw [if_pos c] at ho ⊢
    rw [if_neg (show ¬ (15 : Int32) ≤ nI v from nI_ge (b := 15) c (by omega)), if_neg (show ¬ (15 : Int32) ≤ nI v from nI_ge (b := 15) c (by omega))]
    exact ep_ret h
  · rw [if_neg c] at ho ⊢
    rw [if_pos (show (15 : Int32) ≤ nI v from nI_le (a := 15) (by omega) (by omega)), if_pos (show (15 : Int32) ≤ nI v from nI_le (a := 15) (by omega) (by omega))]
    simp only [bnd]
    rw [show nI v - (15 : Int32) = nI (v - 15) from pk_sub (b := 15) (by omega)]
    rw [show (1000 : Nat) = 999 + 1 from rfl, zf_SW_writeSum_L12_s, zf_M_emitMore_L12_s]
    rw [if_pos (show nI (v - 15) < (255 : Int32) from nI_lt (b := 255) (by omega) (by decide)), if_pos (show nI (v - 15) < (255 : Int32) from nI_lt (b := 255) (by omega) (by decide))]
    rw [bc3_e, bc3_e, bc2_id, bc2_id]
    exact ep_add (by omega) h rfl
theorem ep_lits {p q : Nat} {qf hi : Nat → Int32} (hq : q ≤ 160) (hp : p ≤ 64) (hh : ∀ j, j < q → hi (p + j) = rB qf q j) (b : Nat) (hb : b ≤ q) : ∀ (d a n o : Nat) (of mf : Nat → Int32), a + d = b → d < n → o + d ≤ 200 → RO o of mf → ∃ of' mf', zf_W_writePlain_L2 (nI q) 160 qf 200 (nI b) n (nI a) (nI o) of = some (nI b, nI (o + d), of') ∧ zf_M_emitLiterals_L2 hi (nI (p + b)) n (nI (p + a)) (nI o) mf = some (nI (p + b), nI (o + d), mf') ∧ RO (o + d) of' mf' ∧ KO mf mf'
  | 0, a, n + 1, o, of, mf, e, _, _, h => by
    have e : a = b := by omega
    subst e
    refine ⟨of, mf, ?_, ?_, h, KO_r mf⟩
    · rw [zf_W_writePlain_L2_s, if_pos (nI_le (Nat.le_refl _) (by omega))]
      rfl
    · rw [zf_M_emitLiterals_L2_s, if_pos (nI_le (Nat.le_refl _) (by omega))]
      rfl
  | d + 1, a, n + 1, o, of, mf, e, hn, ho, h => by
    obtain ⟨of1, mf1, e1, e2, r1, k1⟩ := ep_add (b := rB qf q a) (b' := hi (p + a)) (by omega : o < 200) h (by rw [hh a (by omega)])
    obtain ⟨of2, mf2, e3, e4, r2, k2⟩ := ep_lits hq hp hh b hb d (a + 1) n (o + 1) of1 mf1 (by omega) (by omega) (by omega) r1
    refine ⟨of2, mf2, ?_, ?_, by rw [show o + (d + 1) = o + 1 + d by omega]; exact r2, KO_t k1 k2⟩
    · rw [zf_W_writePlain_L2_s, if_neg (nI_ge (by omega) (by omega)), pu_byteAt hq (by decide) (by omega), bc1_e, e1, bc2_e]
      simp only [bnd]
      rw [nI_1, e3, show o + 1 + d = o + (d + 1) by omega]
    · rw [zf_M_emitLiterals_L2_s, if_neg (nI_ge (by omega) (by omega)), gd_t (nI_in (by omega) (by decide)), nI_clamp (by omega), e2, bc2_e]
      simp only [bnd]
      rw [nI_1, show p + a + 1 = p + (a + 1) by omega, e4, show o + 1 + d = o + (d + 1) by omega]
theorem ep_plain {p q a b o : Nat} {qf hi of mf : Nat → Int32} (hq : q ≤ 160) (hp : p ≤ 64) (hh : ∀ j, j < q → hi (p + j) = rB qf q j) (hb : b ≤ q) (ha : a ≤ b) (ho : o + (b - a) ≤ 200) (h : RO o of mf) : EP (zf_W_writePlain (nI q) 160 qf (nI o) 200 of (nI a) (nI b)) (zf_M_emitLiterals mf hi (nI o) (nI (p + a)) (nI (p + b))) (o + (b - a)) mf := by
  obtain ⟨of', mf', e1, e2, r, k⟩ := ep_lits hq hp hh b hb (b - a) a 1000 o of mf (by omega) (by omega) ho h
  refine ⟨of', mf', ?_, ?_, r, k⟩
  · unfold zf_W_writePlain
    rw [e1, bc3_e]
  · unfold zf_M_emitLiterals
    rw [e2, bc3_e]
def m15 (v : Nat) : Nat := if v < 15 then v else 15
theorem pm_15 {v : Nat} (hv : v < 2 ^ 31) : zf_M_atMost15 (nI v) = some (nI (m15 v)) := by
  unfold zf_M_atMost15 m15
  by_cases c : v < 15
  · rw [if_neg (show ¬ (15 : Int32) ≤ nI v from nI_ge (b := 15) c (by omega)), if_pos c]
  · rw [if_pos (show (15 : Int32) ≤ nI v from nI_le (a := 15) (by omega) (by omega)), if_neg c]
    rfl
theorem pu_15 {v : Nat} (hv : v < 2 ^ 31) : (if (15 : Int32) < nI v then (15 : Int32) else nI v) = nI (m15 v) := by
  unfold m15
  by_cases c : v < 15
  · rw [if_neg (show ¬ (15 : Int32) < nI v from nI_nlt (a := 15) (by omega) (by omega)), if_pos c]
  · by_cases c2 : v = 15
    · subst c2
      rw [if_neg (show ¬ (15 : Int32) < nI 15 from nI_nlt (a := 15) (b := 15) (by omega) (by omega)), if_neg (by omega)]
    · rw [if_pos (show (15 : Int32) < nI v from nI_lt (a := 15) (by omega) (by omega)), if_neg c]
      rfl
theorem cs_le (v : Nat) : cs v ≤ 1 := by unfold cs; split <;> omega
theorem ep_seq {p q a b m o t : Nat} {qf hi of mf : Nat → Int32} (hq : q ≤ 160) (hp : p ≤ 64) (hh : ∀ j, j < q → hi (p + j) = rB qf q j) (hb : b ≤ q) (ha : a ≤ b) (hm : 4 ≤ m) (hm2 : m ≤ 160) (ho : o + (3 + cs (b - a) + (b - a) + cs (m - 4)) ≤ 200) (h : RO o of mf) : EP (zf_SW_match (nI q) 160 qf (nI o) 200 of (nI a) (nI b) (nI t) (nI m)) (zf_M_sequence mf hi (nI o) (nI (p + a)) (nI (p + b)) (nI m) (nI t)) (o + (3 + cs (b - a) + (b - a) + cs (m - 4))) mf := by
  unfold zf_SW_match zf_SW_writeLiterals zf_M_sequence
  simp only [bnd, bc2_as, bc2_e, bc2_id]
  rw [show nI m - (4 : Int32) = nI (m - 4) from pk_sub (b := 4) hm, pu_15 (by omega), show nI b - nI a = nI (b - a) from pk_sub ha, pu_15 (by omega), show nI (p + b) - nI (p + a) = nI (b - a) by rw [pk_sub (by omega)]; congr 1; omega, pm_15 (by omega), bc1_e, pm_15 (by omega), bc1_e]
  refine ep_bind (ep_add (by omega) h rfl) (fun of1 mf1 r1 => ?_)
  refine ep_bind (ep_more (by omega) (by omega) r1) (fun of2 mf2 r2 => ?_)
  refine ep_bind (ep_plain hq hp hh hb ha (by omega) r2) (fun of3 mf3 r3 => ?_)
  refine ep_bind (ep_add (by omega) r3 rfl) (fun of4 mf4 r4 => ?_)
  refine ep_bind (ep_add (by omega) r4 rfl) (fun of5 mf5 r5 => ?_)
  exact ep_o (by omega) (ep_more (by omega) (by omega) r5)
theorem ep_last {p q a o : Nat} {qf hi of mf : Nat → Int32} (hq : q ≤ 160) (hp : p ≤ 64) (hh : ∀ j, j < q → hi (p + j) = rB qf q j) (ha : a ≤ q) (ho : o + (1 + cs (q - a) + (q - a)) ≤ 200) (h : RO o of mf) : EP (zf_SW_end (nI q) 160 qf (nI o) 200 of (nI a)) (zf_M_lastSequence mf hi (nI o) (nI (p + a)) (nI (p + q))) (o + (1 + cs (q - a) + (q - a))) mf := by
  unfold zf_SW_end zf_SW_writeLiterals zf_M_lastSequence
  simp only [bnd, bc2_as, bc2_e, bc2_id]
  rw [show nI q - nI a = nI (q - a) from pk_sub ha, pu_15 (by omega), show nI (p + q) - nI (p + a) = nI (q - a) by rw [pk_sub (by omega)]; congr 1; omega, pm_15 (by omega), bc1_e]
  refine ep_bind (ep_add (by omega) h (by rw [Int32.or_zero])) (fun of1 mf1 r1 => ?_)
  refine ep_bind (ep_more (by omega) (by omega) r1) (fun of2 mf2 r2 => ?_)
  exact ep_o (by omega) (ep_plain hq hp hh (Nat.le_refl _) ha (by omega) r2)
def ce (l : Nat) : Nat := if l = 0 then 0 else if l ≤ 60 then 1 + l else 2 + l
theorem ep_elem {p q a b o : Nat} {qf hi of mf : Nat → Int32} (hq : q ≤ 160) (hp : p ≤ 64) (hh : ∀ j, j < q → hi (p + j) = rB qf q j) (hb : b ≤ q) (ha : a ≤ b) (ho : o + ce (b - a) ≤ 200) (h : RO o of mf) : EP (zf_EW_writeLiterals (nI q) 160 qf (nI o) 200 of (nI a) (nI b)) (zf_M_literalElement mf hi (nI o) (nI (p + a)) (nI (p + b))) (o + ce (b - a)) mf := by
  unfold zf_EW_writeLiterals zf_M_literalElement
  simp only [bnd, bc2_as, bc2_e, bc2_id]
  rw [show nI (p + b) - nI (p + a) = nI (b - a) by rw [pk_sub (by omega)]; congr 1; omega]
  unfold ce at ho ⊢
  by_cases c : a = b
  · subst c
    rw [if_pos (show a - a = 0 by omega)] at ho ⊢
    rw [if_neg (nI_nlt (Nat.le_refl _) (by omega)), if_neg (by rw [Nat.sub_self]; decide)]
    exact ep_ret h
  · rw [if_neg (show ¬ b - a = 0 by omega)] at ho ⊢
    rw [if_pos (nI_lt (by omega) (by omega)), show nI b - nI a = nI (b - a) from pk_sub ha, show nI (b - a) - (1 : Int32) = nI (b - a - 1) from pk_sub (b := 1) (by omega), if_pos (nI_pos' (by omega))]
    by_cases c2 : b - a ≤ 60
    · rw [if_pos c2] at ho ⊢
      rw [if_neg (show ¬ (60 : Int32) ≤ nI (b - a - 1) from nI_ge (b := 60) (by omega) (by decide)), if_neg (show ¬ (60 : Int32) ≤ nI (b - a - 1) from nI_ge (b := 60) (by omega) (by decide)), bc1_e]
      refine ep_bind (ep_add (by omega) h rfl) (fun of1 mf1 r1 => ?_)
      rw [if_pos (show nI (b - a - 1) ≤ (59 : Int32) from nI_le (b := 59) (by omega) (by decide)), bc2_e]
      exact ep_o (by omega) (ep_plain hq hp hh hb ha (by omega) r1)
    · rw [if_neg c2] at ho ⊢
      rw [if_pos (show (60 : Int32) ≤ nI (b - a - 1) from nI_le (a := 60) (by omega) (by omega)), if_pos (show (60 : Int32) ≤ nI (b - a - 1) from nI_le (a := 60) (by omega) (by omega)), bc1_e, bc2_as]
      refine ep_bind (ep_add (by omega) h (by decide)) (fun of1 mf1 r1 => ?_)
      rw [if_neg (show ¬ nI (b - a - 1) ≤ (59 : Int32) from nI_ge (a := 59) (by omega) (by omega))]
      refine ep_bind (ep_add (by omega) r1 rfl) (fun of2 mf2 r2 => ?_)
      exact ep_o (by omega) (ep_plain hq hp hh hb ha (by omega) r2)
theorem ep_long {o t m : Nat} {of mf : Nat → Int32} {k : Int32 → (Nat → Int32) → Option (Int32 × (Nat → Int32))} (hm : 1 ≤ m) (ho : o + 3 ≤ 200) (h : RO o of mf) : EP (zf_EW_writeLong (nI o) 200 of (nI t) (nI m)) (bc2 (zf_M_emit mf (nI o) ((2 : Int32) ||| ((nI m - (1 : Int32)) <<< ((2 : Int32) &&& 31)))) fun v1 v2 => bc2 (zf_M_emit v2 v1 (nI t)) fun v3 v4 => zf_M_emit v4 v3 (nI t >>> ((8 : Int32) &&& 31))) (o + 3) mf := by
  unfold zf_EW_writeLong
  simp only [bc2_id]
  refine ep_bind (ep_add (by omega) h (by rw [Int32.or_comm])) (fun of1 mf1 r1 => ?_)
  refine ep_bind (ep_add (by omega) r1 rfl) (fun of2 mf2 r2 => ?_)
  exact ep_o (by omega) (ep_add (by omega) r2 rfl)
def c1 (m : Nat) : Nat := if m < 4 then 3 else if 11 < m then 3 else 2
theorem ep_copy {o t m : Nat} {of mf : Nat → Int32} (hm : 1 ≤ m) (hm2 : m ≤ 160) (ht : t < 2048) (ho : o + c1 m ≤ 200) (h : RO o of mf) : EP (zf_EW_writeCopy (nI o) 200 of (nI t) (nI m)) (zf_M_copyElement mf (nI o) (nI m) (nI t)) (o + c1 m) mf := by
  unfold zf_EW_writeCopy zf_M_copyElement
  simp only [bc2_id]
  unfold c1 at ho ⊢
  by_cases c : m < 4
  · rw [if_pos c] at ho ⊢
    rw [if_pos (show nI m < (4 : Int32) from nI_lt (b := 4) c (by decide)), if_pos (show nI m ≤ (3 : Int32) from nI_le (b := 3) (by omega) (by decide))]
    exact ep_long (k := fun _ _ => none) hm ho h
  · rw [if_neg c] at ho ⊢
    rw [if_neg (show ¬ nI m < (4 : Int32) from nI_nlt (b := 4) (by omega) (by omega)), if_neg (show ¬ nI m ≤ (3 : Int32) from nI_ge (a := 3) (by omega) (by omega))]
    by_cases c2 : 11 < m
    · rw [if_pos c2] at ho ⊢
      rw [if_pos (show (11 : Int32) < nI m from nI_lt (a := 11) c2 (by omega)), if_pos (show (12 : Int32) ≤ nI m from nI_le (a := 12) (by omega) (by omega))]
      exact ep_long (k := fun _ _ => none) hm ho h
    · rw [if_neg c2] at ho ⊢
      rw [if_neg (show ¬ (11 : Int32) < nI m from nI_nlt (a := 11) (by omega) (by decide)), if_neg (show ¬ (12 : Int32) ≤ nI m from nI_ge (b := 12) (by omega) (by decide)), if_neg (show ¬ (2048 : Int32) ≤ nI t from nI_ge (b := 2048) ht (by decide)), if_neg (show ¬ (2048 : Int32) ≤ nI t from nI_ge (b := 2048) ht (by decide))]
      refine ep_bind (ep_add (by omega) h ?_) (fun of1 mf1 r1 => ep_o (by omega) (ep_add (by omega) r1 rfl))
      generalize (nI t >>> ((8 : Int32) &&& 31)) <<< ((5 : Int32) &&& 31) = A
      generalize (nI m - (4 : Int32)) <<< ((2 : Int32) &&& 31) = B
      rw [Int32.or_comm A B, Int32.or_assoc, Int32.or_comm A 1, ← Int32.or_assoc, Int32.or_comm B 1]
theorem ep_cl {t : Nat} (ht : t < 2048) : ∀ (j m n o : Nat) (of mf : Nat → Int32), m < 68 + 64 * j → j < n → 4 ≤ m → m ≤ 160 → o + m ≤ 202 → RO o of mf → ∃ m' o' of' mf', zf_EW_match_L10 200 (nI t) n (nI m) (nI o) of = some (nI m', nI o', of') ∧ zf_M_copyElements_L2 (nI t) n (nI m) (nI o) mf = some (nI m', nI o', mf') ∧ 4 ≤ m' ∧ m' < 68 ∧ o' + m' ≤ o + m ∧ RO o' of' mf' ∧ KO mf mf'
  | j, m, n + 1, o, of, mf, hj, hn, h4, hm, ho, h => by
    by_cases c : m < 68
    · refine ⟨m, o, of, mf, ?_, ?_, h4, c, Nat.le_refl _, h, KO_r mf⟩
      · rw [zf_EW_match_L10_s, if_pos (show nI m < (68 : Int32) from nI_lt (b := 68) c (by decide))]
      · rw [zf_M_copyElements_L2_s, if_pos (show nI m < (68 : Int32) from nI_lt (b := 68) c (by decide))]
    · match j, hj, hn with
      | 0, hj, hn => omega
      | j + 1, hj, hn =>
        obtain ⟨of1, mf1, e1, e2, r1, k1⟩ := ep_long (t := t) (m := 64) (k := fun _ _ => none) (by decide) (by omega : o + 3 ≤ 200) h
        obtain ⟨m', o', of', mf', e3, e4, a1, a2, a3, r2, k2⟩ := ep_cl ht j (m - 64) n (o + 3) of1 mf1 (by omega) (by omega) (by omega) (by omega) (by omega) r1
        refine ⟨m', o', of', mf', ?_, ?_, a1, a2, by omega, r2, KO_t k1 k2⟩
        · rw [zf_EW_match_L10_s, if_neg (show ¬ nI m < (68 : Int32) from nI_nlt (b := 68) (by omega) (by omega)), show (64 : Int32) = nI 64 from rfl, e1, bc2_e]
          simp only [bnd]
          rw [pz_neg (show 64 ≤ m by omega), e3]
        · rw [zf_M_copyElements_L2_s, if_neg (show ¬ nI m < (68 : Int32) from nI_nlt (b := 68) (by omega) (by omega))]
          have e5 : zf_M_copyElement mf (nI o) (nI 64) (nI t) = some (nI (o + 3), mf1) := by
            unfold zf_M_copyElement
            simp only [bc2_id]
            rw [if_neg (show ¬ nI 64 ≤ (3 : Int32) by decide), if_pos (show (12 : Int32) ≤ nI 64 by decide)]
            exact e2
          rw [show (64 : Int32) = nI 64 from rfl, e5, bc2_e]
          simp only [bnd]
          rw [pz_neg (show 64 ≤ m by omega), e4]
theorem ep_copies {t m o : Nat} {of mf : Nat → Int32} (ht : t < 2048) (h4 : 4 ≤ m) (hm : m ≤ 160) (ho : o + m ≤ 202) (h : RO o of mf) : ∃ o', o' + 2 ≤ o + m ∧ EP (bc3 (zf_EW_match_L10 200 (nI t) 1000 (nI m) (nI o) of) fun x9 x10 x11 => bc3 (if x9 ≤ (64 : Int32) then some (x9, x10, x11) else bc2 (zf_EW_writeLong x10 200 x11 (nI t) (60 : Int32)) fun v15 v16 => some (x9 + (-60 : Int32), v15, v16)) fun u12 u13 u14 => zf_EW_writeCopy u13 200 u14 (nI t) u12) (zf_M_copyElements mf (nI o) (nI m) (nI t)) o' mf := by
  obtain ⟨m', o1, of1, mf1, e1, e2, a1, a2, a3, r1, k1⟩ := ep_cl ht 2 m 1000 o of mf (by omega) (by omega) h4 hm ho h
  unfold zf_M_copyElements
  simp only [bnd, bc2_id]
  rw [e1, e2, bc3_e, bc3_e]
  by_cases c : m' ≤ 64
  · rw [if_pos (show nI m' ≤ (64 : Int32) from nI_le (b := 64) c (by decide)), if_pos (show nI m' ≤ (64 : Int32) from nI_le (b := 64) c (by decide)), bc3_e, bc3_e]
    have hc : c1 m' + 2 ≤ m' := by unfold c1; split <;> (try split) <;> omega
    obtain ⟨of2, mf2, e3, e4, r2, k2⟩ := ep_copy (t := t) (m := m') (by omega) (by omega) ht (by omega : o1 + c1 m' ≤ 200) r1
    exact ⟨o1 + c1 m', by omega, of2, mf2, e3, e4, r2, KO_t k1 k2⟩
  · rw [if_neg (show ¬ nI m' ≤ (64 : Int32) from nI_ge (a := 64) (by omega) (by omega)), if_neg (show ¬ nI m' ≤ (64 : Int32) from nI_ge (a := 64) (by omega) (by omega))]
    obtain ⟨of2, mf2, e3, e4, r2, k2⟩ := ep_long (t := t) (m := 60) (k := fun _ _ => none) (by decide) (by omega : o1 + 3 ≤ 200) r1
    have e5 : zf_M_copyElement mf1 (nI o1) (60 : Int32) (nI t) = some (nI (o1 + 3), mf2) := by
      unfold zf_M_copyElement
      simp only [bc2_id]
      rw [if_neg (show ¬ (60 : Int32) ≤ (3 : Int32) by decide), if_pos (show (12 : Int32) ≤ (60 : Int32) by decide)]
      exact e4
    rw [show zf_EW_writeLong (nI o1) 200 of1 (nI t) (60 : Int32) = some (nI (o1 + 3), of2) from e3, e5, bc2_e, bc2_e, bc3_e, bc3_e, pz_m60 (by omega)]
    have hc : c1 (m' - 60) = 2 := by unfold c1; rw [if_neg (by omega), if_neg (by omega)]
    obtain ⟨of3, mf3, e6, e7, r3, k3⟩ := ep_copy (t := t) (m := m' - 60) (by omega) (by omega) ht (by omega : (o1 + 3) + c1 (m' - 60) ≤ 200) r2
    exact ⟨o1 + 3 + c1 (m' - 60), by omega, of3, mf3, e6, e7, r3, KO_t k1 (KO_t k2 k3)⟩
theorem ce_le (l : Nat) : ce l ≤ l + 2 := by unfold ce; split <;> (try split) <;> omega
theorem ep_matchE {p q a b m o t : Nat} {qf hi of mf : Nat → Int32} (hq : q ≤ 160) (hp : p ≤ 64) (hh : ∀ j, j < q → hi (p + j) = rB qf q j) (hb : b ≤ q) (ha : a ≤ b) (hm : 4 ≤ m) (hm2 : m ≤ 160) (ht : t < 2048) (ho : o + (b - a) + m ≤ 200) (h : RO o of mf) : ∃ o', o' ≤ o + (b - a) + m ∧ EP (zf_EW_match (nI q) 160 qf (nI o) 200 of (nI a) (nI b) (nI t) (nI m)) (bc2 (zf_M_literalElement mf hi (nI o) (nI (p + a)) (nI (p + b))) fun v37 v38 => zf_M_copyElements v38 v37 (nI m) (nI t)) o' mf := by
  have hc := ce_le (b - a)
  obtain ⟨of1, mf1, e1, e2, r1, k1⟩ := ep_elem hq hp hh hb ha (by omega : o + ce (b - a) ≤ 200) h
  obtain ⟨o', a1, of2, mf2, e3, e4, r2, k2⟩ := ep_copies ht hm hm2 (by omega : (o + ce (b - a)) + m ≤ 202) r1
  refine ⟨o', by omega, of2, mf2, ?_, ?_, r2, KO_t k1 k2⟩
  · unfold zf_EW_match
    rw [e1, bc2_e]
    simp only [bnd, bc2_id]
    exact e3
  · rw [e2, bc2_e, e4]
