/-! Pure facts: the two sums, class and reference side by side. -/
theorem crc_same : ∀ (n : Nat) (x i : Int32), zf_X_crcStep_L4 n x i = zf_M_crc_L54 n x i
  | 0, _, _ => rfl
  | n + 1, x, i => by
    rw [zf_X_crcStep_L4_s, zf_M_crc_L54_s]
    by_cases c : (8 : Int32) ≤ i
    · rw [if_pos c, if_pos c]
    · rw [if_neg c, if_neg c]
      simp only [bnd]
      by_cases g : x &&& (1 : Int32) = (1 : Int32)
      · rw [if_pos g, if_pos g, bc1_e, bc1_e, if_neg (by decide), bc1_e]
        exact crc_same n _ _
      · rw [if_neg g, if_neg g, bc1_e, bc1_e, if_pos rfl, bc1_e]
        exact crc_same n _ _
theorem turn_same (a b : Int32) : zf_X_turnLeft a b = zf_M_turn a b := rfl
def RR (c : Nat) (f mf : Nat → Int32) (r : Nat) : Prop := ∀ j, j < c → mf (200 * r + j) = rB f c j
theorem pm_off {r k : Nat} : (200 : Int32) * nI r + nI k = nI (200 * r + k) := by
  rw [show (200 : Int32) * nI r = nI (200 * r) from pk_mul 200 r, nI_add]
theorem pm_rowInt {mf : Nat → Int32} {r k : Nat} (hr : r < 3) (hk : k + 3 < 200) : zf_M_rowInt mf (nI r) (nI k) = some (h4 (fun j => mf (200 * r + j)) k) := by
  unfold zf_M_rowInt
  simp only [bnd]
  rw [pm_off, show nI (200 * r + k) + (1 : Int32) = nI (200 * r + (k + 1)) from nI_add _ 1, show nI (200 * r + k) + (2 : Int32) = nI (200 * r + (k + 2)) from nI_add _ 2, show nI (200 * r + k) + (3 : Int32) = nI (200 * r + (k + 3)) from nI_add _ 3]
  rw [gd_t (nI_in (by omega) (by decide)), gd_t (nI_in (by omega) (by decide)), gd_t (nI_in (by omega) (by decide)), gd_t (nI_in (by omega) (by decide))]
  rw [nI_clamp (by omega), nI_clamp (by omega), nI_clamp (by omega), nI_clamp (by omega)]
  rfl
theorem int_same {c ln r k : Nat} {f mf : Nat → Int32} (hc : c ≤ ln) (hl : ln ≤ 200) (hr : r < 3) (h : RR c f mf r) (hk : k + 3 < c) : zf_R_intAt (nI c) ln f (nI k) = zf_M_rowInt mf (nI r) (nI k) := by
  rw [pu_rintAt hc (by omega) (by omega), pm_rowInt hr (by omega), h4_congr (n := c) (fun j hj => (h j hj).symm) hk]
theorem lane_same {c ln r i : Nat} {f mf sz : Nat → Int32} (hc : c ≤ ln) (hl : ln ≤ 200) (hr : r < 3) (hi : i < 4) (h : RR c f mf r) (hs : sz r = nI c) : ∀ (n k : Nat) (v : Int32), k ≤ 300 → zf_X_lane_L5 (nI c) ln f (nI (4 * i)) n v (nI k) = zf_M_lane_L6 mf sz (nI r) (nI i) n v (nI k)
  | 0, _, _, _ => rfl
  | n + 1, k, v, hk => by
    rw [zf_X_lane_L5_s, zf_M_lane_L6_s, gd_t (nI_in hr (by decide)), nI_clamp (by omega), hs]
    rw [show nI k + (16 : Int32) = nI (k + 16) from nI_add k 16]
    by_cases g : c < k + 16
    · rw [if_pos (nI_lt g (by omega)), if_pos (nI_lt g (by omega))]
    · rw [if_neg (nI_nlt (by omega) (by omega)), if_neg (nI_nlt (by omega) (by omega)), show (4 : Int32) * nI i = nI (4 * i) from pk_mul 4 i, nI_add k (4 * i), int_same hc hl hr h (by omega)]
      simp only [bnd, turn_same, lane_same hc hl hr hi h hs n (k + 16) _ (by omega)]
