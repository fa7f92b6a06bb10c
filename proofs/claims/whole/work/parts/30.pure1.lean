/-! Pure facts: rows, history, the table's slots. -/
theorem pz_self (x : Int32) : x = nI x.toBitVec.toNat := Int32.toBitVec_inj.mp (by show _ = BitVec.ofNat 32 _; simp)
theorem pz_b (x : Int32) : x.toInt8.toInt32 &&& 255 = x &&& 255 := by
  apply Int32.toBitVec_inj.mp
  rw [Int32.toBitVec_and, Int32.toBitVec_and, Int8.toBitVec_toInt32, Int32.toBitVec_toInt8]
  apply BitVec.eq_of_getLsbD_eq
  intro i hi
  rw [BitVec.getLsbD_and, BitVec.getLsbD_and]
  have hm : ∀ i < 32, 8 ≤ i → (255 : Int32).toBitVec.getLsbD i = false := by decide
  rcases Nat.lt_or_ge i 8 with z | z
  · rw [BitVec.getLsbD_signExtend, BitVec.getLsbD_signExtend, if_pos z, if_pos hi]
    simp [z, hi]
  · rw [hm i hi z, Bool.and_false, Bool.and_false]
theorem pz_neg {a b : Nat} (h : b ≤ a) : nI a + -nI b = nI (a - b) := by rw [← Int32.sub_eq_add_neg, pk_sub h]
theorem pz_m64 {a : Nat} (h : 64 ≤ a) : nI a + (-64 : Int32) = nI (a - 64) := pz_neg h
theorem pz_m60 {a : Nat} (h : 60 ≤ a) : nI a + (-60 : Int32) = nI (a - 60) := pz_neg h
def rB (f : Nat → Int32) (c k : Nat) : Int32 := if k < c then f k &&& 255 else 0
def hB (p : Nat) (pf : Nat → Int32) (q : Nat) (qf : Nat → Int32) (k : Nat) : Int32 := if k < p then rB pf p k else rB qf q (k - p)
def i4 (a b c d : Int32) : Int32 := ((a ||| (b <<< ((8 : Int32) &&& 31))) ||| (c <<< ((16 : Int32) &&& 31))) ||| (d <<< ((24 : Int32) &&& 31))
def h4 (g : Nat → Int32) (k : Nat) : Int32 := i4 (g k) (g (k + 1)) (g (k + 2)) (g (k + 3))
def slt (w : Int32) : Int32 := ush (w * (-1640531535 : Int32)) (27 : Int32)
theorem slt_lt (w : Int32) : ∃ j, j < 32 ∧ slt w = nI j := by
  have h := pk_ushr (w * (-1640531535 : Int32)) 27 27 (by decide)
  refine ⟨(slt w).toBitVec.toNat, ?_, pz_self _⟩
  unfold slt ush
  rw [h]
  have := (w * (-1640531535 : Int32)).toBitVec.isLt
  omega
theorem pu_byteAt {c ln k : Nat} {f : Nat → Int32} (hc : c ≤ ln) (hl : ln < 2 ^ 31) (hk : k < 2 ^ 31) : zf_R_byteAt (nI c) ln f (nI k) = some (rB f c k) := by
  unfold zf_R_byteAt rB
  rw [if_neg (nI_pos hk)]
  by_cases h : k < c
  · rw [if_neg (nI_ge h (by omega)), if_neg (show ¬ Int32.ofNat ln ≤ nI k from nI_ge (by omega) hl), gd_t (nI_in (by omega) hl), nI_clamp hk, if_pos h]
  · rw [if_pos (nI_le (by omega) hk), if_neg h]
theorem pu_add {c ln : Nat} {f : Nat → Int32} {b : Int32} (hc : c < ln) (hl : ln < 2 ^ 31) : zf_R_add (nI c) ln f b = some (nI (c + 1), upd f c b.toInt8.toInt32) := by
  unfold zf_R_add
  rw [if_neg (nI_pos (by omega)), if_neg (show ¬ Int32.ofNat ln ≤ nI c from nI_ge hc hl), gd_t (nI_in hc hl)]
  simp only [bnd]
  rw [nI_clamp (by omega), pk_vb, nI_1]
theorem pu_addF {c ln : Nat} {f : Nat → Int32} {b : Int32} (hc : c = ln) (hl : ln < 2 ^ 31) : zf_R_add (nI c) ln f b = some (nI c, f) := by
  unfold zf_R_add
  rw [if_neg (nI_pos (by omega)), if_pos (show Int32.ofNat ln ≤ nI c from nI_le (by omega) (by omega))]
theorem pu_hbyteAt {p q pl ql k : Nat} {pf qf : Nat → Int32} (hp : p ≤ pl) (hq : q ≤ ql) (hpl : pl < 2 ^ 31) (hql : ql < 2 ^ 31) (hk : k < 2 ^ 31) : zf_H_byteAt (nI p) pl pf (nI q) ql qf (nI k) = some (hB p pf q qf k) := by
  unfold zf_H_byteAt hB
  by_cases h : k < p
  · rw [if_neg (nI_ge h (by omega)), if_pos h, pu_byteAt hp hpl hk]
    rfl
  · rw [if_pos (nI_le (by omega) hk), if_neg h, pk_sub (by omega), pu_byteAt hq hql (by omega)]
    rfl
theorem pu_hintAt {p q pl ql k : Nat} {pf qf : Nat → Int32} (hp : p ≤ pl) (hq : q ≤ ql) (hpl : pl < 2 ^ 31) (hql : ql < 2 ^ 31) (hk : k + 3 < 2 ^ 31) : zf_H_intAt (nI p) pl pf (nI q) ql qf (nI k) = some (h4 (hB p pf q qf) k) := by
  unfold zf_H_intAt
  rw [show nI k + (1 : Int32) = nI (k + 1) from nI_add k 1, show nI k + (2 : Int32) = nI (k + 2) from nI_add k 2, show nI k + (3 : Int32) = nI (k + 3) from nI_add k 3]
  rw [pu_hbyteAt hp hq hpl hql (by omega), pu_hbyteAt hp hq hpl hql (by omega), pu_hbyteAt hp hq hpl hql (by omega), pu_hbyteAt hp hq hpl hql (by omega)]
  rfl
theorem pu_rintAt {c ln k : Nat} {f : Nat → Int32} (hc : c ≤ ln) (hl : ln < 2 ^ 31) (hk : k + 3 < 2 ^ 31) : zf_R_intAt (nI c) ln f (nI k) = some (h4 (rB f c) k) := by
  unfold zf_R_intAt
  rw [show nI k + (1 : Int32) = nI (k + 1) from nI_add k 1, show nI k + (2 : Int32) = nI (k + 2) from nI_add k 2, show nI k + (3 : Int32) = nI (k + 3) from nI_add k 3]
  rw [pu_byteAt hc hl (by omega), pu_byteAt hc hl (by omega), pu_byteAt hc hl (by omega), pu_byteAt hc hl (by omega)]
  rfl
theorem pz_32 {j : Nat} (hj : j < 32) : nI j < Int32.ofNat 32 := nI_lt hj (by omega)
theorem pu_exchange {p q pl ql k j : Nat} {pf qf tf : Nat → Int32} (hp : p ≤ pl) (hq : q ≤ ql) (hpl : pl < 2 ^ 31) (hql : ql < 2 ^ 31) (hk : k + 3 < 2 ^ 31) (hj : j < 32) (e : slt (h4 (hB p pf q qf) k) = nI j) : zf_P_exchange (nI p) pl pf (nI q) ql qf tf (nI k) = some (tf j, upd tf j (nI k)) := by
  have e' : ush (h4 (hB p pf q qf) k * (-1640531535 : Int32)) (27 : Int32) = nI j := e
  unfold zf_P_exchange
  rw [pu_hintAt hp hq hpl hql hk, bc1_e, e']
  simp only [bnd]
  rw [if_neg (nI_pos (by omega)), if_pos (pz_32 hj), gd_t (nI_in hj (by omega)), gd_t (nI_in hj (by omega)), nI_clamp (by omega)]
theorem pm_four (a b c d : Int32) : zf_M_four a b c d = some (i4 a b c d) := rfl
theorem pm_intAt {hi : Nat → Int32} {k : Nat} (hk : k + 3 < 224) : zf_M_intAt hi (nI k) = some (h4 hi k) := by
  unfold zf_M_intAt
  rw [show nI k + (1 : Int32) = nI (k + 1) from nI_add k 1, show nI k + (2 : Int32) = nI (k + 2) from nI_add k 2, show nI k + (3 : Int32) = nI (k + 3) from nI_add k 3]
  rw [gd_t (nI_in (by omega) (by decide)), gd_t (nI_in (by omega) (by decide)), gd_t (nI_in (by omega) (by decide)), gd_t (nI_in (by omega) (by decide))]
  rw [nI_clamp (by omega), nI_clamp (by omega), nI_clamp (by omega), nI_clamp (by omega)]
  rfl
theorem pm_slot {hi : Nat → Int32} {k : Nat} (hk : k + 3 < 224) : zf_M_slot hi (nI k) = some (slt (h4 hi k)) := by
  unfold zf_M_slot
  rw [pm_intAt hk]
  rfl
theorem h4_congr {g g' : Nat → Int32} {k n : Nat} (h : ∀ j, j < n → g j = g' j) (hk : k + 3 < n) : h4 g k = h4 g' k := by
  unfold h4
  rw [h k (by omega), h (k + 1) (by omega), h (k + 2) (by omega), h (k + 3) (by omega)]
