/-! floorDiv, the greatest common divisor, lowest terms, which of two fractions is more; Ratio, Range -/
def xr (x y : Int) : Int := (lI x ^^^ lI y).toInt
theorem xr_e (x y : Int) : lI x ^^^ lI y = lI (xr x y) := (lI_o _).symm
theorem msb_neg (x : Int64) : x.toBitVec.msb = true ↔ x.toInt < 0 := by
  rw [BitVec.msb_eq_toInt]
  exact decide_eq_true_iff
theorem xr_neg {x y : Int} (hx : inL x) (hy : inL y) : xr x y < 0 ↔ ((x < 0 ∧ 0 ≤ y) ∨ (0 ≤ x ∧ y < 0)) := by
  unfold xr
  rw [← msb_neg, Int64.toBitVec_xor, BitVec.msb_xor]
  have h1 := msb_neg (lI x)
  have h2 := msb_neg (lI y)
  rw [lI_t hx] at h1
  rw [lI_t hy] at h2
  cases hm1 : (lI x).toBitVec.msb <;> cases hm2 : (lI y).toBitVec.msb <;> simp only [hm1, hm2] at h1 h2 <;> simp at h1 h2 ⊢ <;> omega
theorem td_n {x y : Int} (h : 0 ≤ x) : x.tdiv y = x / y := Int.tdiv_eq_ediv_of_nonneg h
theorem td_z {x y : Int} (hy : 0 < y) (h : x.tdiv y * y = x) : x.tdiv y = x / y := by
  have := Int.mul_ediv_cancel (x.tdiv y) (show y ≠ 0 by omega)
  rw [h] at this
  exact this.symm
theorem td_m {x y : Int} (hy : 0 < y) (h0 : x < 0) (h : ¬ x.tdiv y * y = x) : x.tdiv y - 1 = x / y := by
  have h1 := Int.tmod_add_mul_tdiv x y
  have h2 : -y < x.tmod y ∧ x.tmod y ≤ 0 := by
    have a1 := Int.tmod_nonneg y (show 0 ≤ -x by omega)
    have a2 := Int.tmod_lt_of_pos (-x) hy
    rw [Int.neg_tmod] at a1 a2
    omega
  rw [Int.mul_comm] at h
  exact (((Int.ediv_emod_unique hy (r := x.tmod y + y) (q := x.tdiv y - 1)).mpr ⟨by rw [Int.mul_sub, Int.mul_one]; omega, by omega, by omega⟩).1).symm
theorem ed_bd {x y : Int} (hx : inL x) (hy : 0 < y) : inL (x / y) := by
  rcases Int.le_total 0 x with h | h
  · have h1 := Int.ediv_nonneg h (show 0 ≤ y by omega)
    have h2 := Int.ediv_le_self y h
    omega
  · have h1 : x / y ≤ 0 / y := Int.ediv_le_ediv hy h
    rw [Int.zero_ediv] at h1
    have h2 : x ≤ x / y := by
      refine Int.le_ediv_of_mul_le hy ?_
      have := Int.mul_le_mul_of_nonpos_left h (show 1 ≤ y by omega)
      omega
    omega
theorem c_floorDiv (l : Launch) (x y : Int) (hx : inL x) (hy : inL y) (h0 : 0 < y) : Con l M_J9_floorDiv R_J9_floorDiv 0 0 false [.long (lI x), .long (lI y)] [] (zAl (x / y) (fun m => m = [])) := by
  have b1 : inL (x.tdiv y) := by
    by_cases h : x.tdiv y * y = x
    · rw [td_z h0 h]; exact ed_bd hx h0
    · by_cases h2 : x < 0
      · have := td_m h0 h2 h
        have := ed_bd hx h0
        have := Int.tdiv_nonpos_of_nonpos_of_pos (show x ≤ 0 by omega) h0
        omega
      · rw [td_n (by omega)]; exact ed_bd hx h0
  have b2 : inL (x.tdiv y * y) := by
    have h1 := Int.tmod_add_mul_tdiv x y
    rw [Int.mul_comm] at h1
    rcases Int.le_total 0 x with h | h
    · have a1 := Int.tmod_nonneg y h
      have a2 := Int.tdiv_nonneg h (show 0 ≤ y by omega)
      have a3 := Int.mul_nonneg a2 (show 0 ≤ y by omega)
      omega
    · have a1 := Int.tmod_nonneg y (show 0 ≤ -x by omega)
      rw [Int.neg_tmod] at a1
      have a2 := Int.tdiv_nonneg (show 0 ≤ -x by omega) (show 0 ≤ y by omega)
      rw [Int.neg_tdiv] at a2
      have a3 := Int.mul_nonneg a2 (show 0 ≤ y by omega)
      rw [Int.neg_mul] at a3
      omega
  refine Con.of_Z (by decide) D_J9_floorDiv (Nat.le_of_ble_eq_true rfl) ?_
  refine Z_lload_n 0 rfl rfl rfl ?_
  refine Z_lload_n 1 rfl rfl rfl ?_
  refine Z_ldiv 2 rfl (by omega) (by omega) (by omega) ?_
  refine Z_lstore 3 rfl (Nat.le_of_ble_eq_true rfl) (lv' := [(4, .long _), (0, .long _), (2, .long _)]) rfl ?_
  refine Z_lload_n 4 rfl rfl rfl ?_
  refine Z_lload_n 5 rfl rfl rfl ?_
  refine Z_lxor 6 rfl ?_
  refine Z_tl (xr_e x y) ?_
  refine Z_lconst 7 rfl ?_
  refine Z_lc_ge 8 rfl rfl (tgt := 27) rfl (lI_in _) (by omega) (fun c9 => ?_) (fun c9 => ?_)
  · refine Z_lload 20 rfl rfl ?_
    refine Z_lret 21 rfl rfl ⟨Nat.le_refl _, Nat.le_refl _⟩ ?_
    exact ⟨by first | rw [← td_z h0 c19] | rw [← td_n (by have := mt (xr_neg hx hy).mpr (by omega); omega)], rfl⟩
  · refine Z_lload 10 rfl rfl ?_
    refine Z_lload_n 11 rfl rfl rfl ?_
    refine Z_lmul 12 rfl ?_
    refine Z_lload_n 13 rfl rfl rfl ?_
    refine Z_lc_eq 14 rfl rfl (tgt := 27) rfl (by omega) (by omega) (fun c18 => ?_) (fun c18 => ?_)
    · refine Z_lload 20 rfl rfl ?_
      refine Z_lret 21 rfl rfl ⟨Nat.le_refl _, Nat.le_refl _⟩ ?_
      exact ⟨by first | rw [← td_z h0 c19] | rw [← td_n (by have := mt (xr_neg hx hy).mpr (by omega); omega)], rfl⟩
    · refine Z_lload 16 rfl rfl ?_
      refine Z_lconst 17 rfl ?_
      refine Z_lsub 18 rfl ?_
      refine Z_lret 19 rfl rfl ⟨Nat.le_refl _, Nat.le_refl _⟩ ?_
      exact ⟨by rw [← td_m h0 (by have := (xr_neg hx hy).mp (by omega); omega) c19], rfl⟩
