/-! bits; Integer.bitCount -/
section ZB2
variable {X : zX} {kc ks : Nat} {mem : List zE} {pc n : Nat} {lv : List (Nat × Value)} {st : List Value}
theorem Z_ldcw (k : Nat) {idx : Nat} {v : Int32} {c : Int} (h : X.I[k]? = some (pc, .ldc_w idx, 3, n)) (hw : Cond.constant X.M.1.cls idx v ∈ zTB) (hv : v = iI c) (kk : Z X kc ks mem n lv (.int (iI c) :: st)) : Z X kc ks mem pc lv (st) := by
  intro D cI cL ad ad0 n0 A p e s m args below meth c H locs ls hd hB hWd hag hn hA hS hl
  obtain ⟨h1, rfl⟩ := zI_dec hd h
  subst hv
  exact lv_ldcw hB.1 hB.2.1 hB.2.2.2.2.2.1 (hB.2.2.2.2.2.2.2.1 _ hw) h1 (kk D cI cL ad ad0 n0 A p e s m args below meth c H locs ls hd hB hWd hag hn hA hS hl)
theorem i2c_e {x : Int} (hx : 0 ≤ x ∧ x < 65536) : ((iI x).toUInt32 % 65536).toInt32 = iI x := by
  obtain ⟨b, rfl⟩ := Int.eq_ofNat_of_zero_le hx.1
  apply Int32.toBitVec_inj.1
  apply BitVec.eq_of_toNat_eq
  unfold iI
  simp
  omega
theorem Z_i2c (k : Nat) {x : Int} (h : X.I[k]? = some (pc, .i2c, 1, n)) (hx : 0 ≤ x ∧ x < 65536) (kk : Z X kc ks mem n lv (.int (iI x) :: st)) : Z X kc ks mem pc lv (.int (iI x) :: st) := by
  intro D cI cL ad ad0 n0 A p e s m args below meth c H locs ls hd hB hWd hag hn hA hS hl
  obtain ⟨h1, rfl⟩ := zI_dec hd h
  exact lv_i2c hB.1 hB.2.1 h1 (i2c_e hx) (kk D cI cL ad ad0 n0 A p e s m args below meth c H locs ls hd hB hWd hag hn hA hS hl)
theorem Z_isubR (k : Nat) {x y : Int32} (h : X.I[k]? = some (pc, .isub, 1, n)) (kk : Z X kc ks mem n lv (.int (x - y) :: st)) : Z X kc ks mem pc lv (.int y :: .int x :: st) := by
  have h2 := iI_sub x.toInt y.toInt
  rw [iI_o, iI_o] at h2
  rw [h2] at kk
  have h3 := Z_isub k h kk
  rw [iI_o, iI_o] at h3
  exact h3
theorem Z_iaddR (k : Nat) {x y : Int32} (h : X.I[k]? = some (pc, .iadd, 1, n)) (kk : Z X kc ks mem n lv (.int (x + y) :: st)) : Z X kc ks mem pc lv (.int y :: .int x :: st) := by
  have h2 := iI_add x.toInt y.toInt
  rw [iI_o, iI_o] at h2
  rw [h2] at kk
  have h3 := Z_iadd k h kk
  rw [iI_o, iI_o] at h3
  exact h3
end ZB2
def us (x : Int32) (k : Int) : Int32 := (x.toUInt32 >>> ((iI k).toUInt32 &&& Int32.toUInt32 31)).toInt32
def sw1 (x : Int32) : Int32 := x - (us x 1 &&& iI 1431655765)
def sw2 (x : Int32) : Int32 := (x &&& iI 858993459) + (us x 2 &&& iI 858993459)
def sw3 (x : Int32) : Int32 := (x + us x 4) &&& iI 252645135
def sw4 (x : Int32) : Int32 := x + us x 8
def sw5 (x : Int32) : Int32 := (x + us x 16) &&& iI 63
def swr (x : Int32) : Int32 := sw5 (sw4 (sw3 (sw2 (sw1 x))))
/-- a bit of a set, how many -/
def tbi (b k : Int) : Int := if b.toNat.testBit k.toNat = true then 1 else 0
def pcn (b : Int) : Int := sm (fun k => tbi b k) 12
theorem swr_pc0 : ∀ x : Nat, x < 64 → ∀ y : Nat, y < 64 → swr (iI ((64 * x + y : Nat) : Int)) = iI (pcn ((64 * x + y : Nat) : Int)) := by decide +kernel
theorem swr_pc (b : Nat) (h : b < 4096) : swr (iI (b : Int)) = iI (pcn (b : Int)) := by
  have h1 := swr_pc0 (b / 64) (by omega) (b % 64) (by omega)
  rw [Nat.div_add_mod] at h1
  exact h1
theorem kw_265 : Cond.constant "java/lang/Integer" 265 1431655765 ∈ zTB := zTB_of 608 (by decide +kernel) rfl
theorem kw_266 : Cond.constant "java/lang/Integer" 266 858993459 ∈ zTB := zTB_of 609 (by decide +kernel) rfl
theorem kw_267 : Cond.constant "java/lang/Integer" 267 252645135 ∈ zTB := zTB_of 610 (by decide +kernel) rfl
theorem c_bitCount (l : Launch) (x : Int32) : Con l M_J6_bitCount R_J6_bitCount 0 0 false [.int x] [] (fun r m => r = some (.int (swr x)) ∧ m = []) := by
  refine Con.of_ZF (by decide +kernel) D_J6_bitCount (Nat.le_of_ble_eq_true rfl) ?_
  refine Z_iload_n 0 rfl rfl rfl ?_
  refine Z_iload_n 1 rfl rfl rfl ?_
  refine Z_iconst 2 rfl ?_
  refine Z_iushr 3 rfl ?_
  refine Z_ldcw 4 rfl kw_265 (c := 1431655765) rfl ?_
  refine Z_iand 5 rfl ?_
  refine Z_isubR 6 rfl ?_
  refine Z_ti (show _ = sw1 x from rfl) ?_
  refine Z_istore_n 7 rfl rfl (Nat.le_of_ble_eq_true rfl) (lv' := [(0, .int _)]) rfl ?_
  refine Z_iload_n 8 rfl rfl rfl ?_
  refine Z_ldcw 9 rfl kw_266 (c := 858993459) rfl ?_
  refine Z_iand 10 rfl ?_
  refine Z_iload_n 11 rfl rfl rfl ?_
  refine Z_iconst 12 rfl ?_
  refine Z_iushr 13 rfl ?_
  refine Z_ldcw 14 rfl kw_266 (c := 858993459) rfl ?_
  refine Z_iand 15 rfl ?_
  refine Z_iaddR 16 rfl ?_
  refine Z_ti (show _ = sw2 (sw1 x) from rfl) ?_
  refine Z_istore_n 17 rfl rfl (Nat.le_of_ble_eq_true rfl) (lv' := [(0, .int _)]) rfl ?_
  refine Z_iload_n 18 rfl rfl rfl ?_
  refine Z_iload_n 19 rfl rfl rfl ?_
  refine Z_iconst 20 rfl ?_
  refine Z_iushr 21 rfl ?_
  refine Z_iaddR 22 rfl ?_
  refine Z_ldcw 23 rfl kw_267 (c := 252645135) rfl ?_
  refine Z_iand 24 rfl ?_
  refine Z_ti (show _ = sw3 (sw2 (sw1 x)) from rfl) ?_
  refine Z_istore_n 25 rfl rfl (Nat.le_of_ble_eq_true rfl) (lv' := [(0, .int _)]) rfl ?_
  refine Z_iload_n 26 rfl rfl rfl ?_
  refine Z_iload_n 27 rfl rfl rfl ?_
  refine Z_bipush 28 rfl rfl ?_
  refine Z_iushr 29 rfl ?_
  refine Z_iaddR 30 rfl ?_
  refine Z_ti (show _ = sw4 (sw3 (sw2 (sw1 x))) from rfl) ?_
  refine Z_istore_n 31 rfl rfl (Nat.le_of_ble_eq_true rfl) (lv' := [(0, .int _)]) rfl ?_
  refine Z_iload_n 32 rfl rfl rfl ?_
  refine Z_iload_n 33 rfl rfl rfl ?_
  refine Z_bipush 34 rfl rfl ?_
  refine Z_iushr 35 rfl ?_
  refine Z_iaddR 36 rfl ?_
  refine Z_istore_n 37 rfl rfl (Nat.le_of_ble_eq_true rfl) (lv' := [(0, .int _)]) rfl ?_
  refine Z_iload_n 38 rfl rfl rfl ?_
  refine Z_bipush 39 rfl rfl ?_
  refine Z_iand 40 rfl ?_
  refine Z_iret 41 rfl rfl ⟨Nat.le_refl _, Nat.le_refl _⟩ ?_
  exact ⟨rfl, rfl⟩
theorem bitCount_n (l : Launch) (b : Int) (hb : 0 ≤ b ∧ b < 4096) : Con l M_J6_bitCount R_J6_bitCount 0 0 false [.int (iI b)] [] (zAi (pcn b) (fun m => m = [])) := by
  have h := c_bitCount l (iI b)
  have e := swr_pc b.toNat (by omega)
  rw [show ((b.toNat : Nat) : Int) = b by omega] at e
  rw [e] at h
  exact h
theorem gb_iI {b : Int} (h : 0 ≤ b) (i : Nat) (hi : i < 32) : (iI b).toBitVec.getLsbD i = b.toNat.testBit i := by
  obtain ⟨m, rfl⟩ := Int.eq_ofNat_of_zero_le h
  unfold iI
  rw [Int32.toBitVec_ofInt, BitVec.ofInt_natCast, BitVec.getLsbD_ofNat]
  simp [hi]
theorem sh_k {k : Int} (h : 0 ≤ k ∧ k < 12) : ((iI k &&& 31).toBitVec.smod 32) = BitVec.ofNat 32 k.toNat := by
  rcases (show k = 0 ∨ k = 1 ∨ k = 2 ∨ k = 3 ∨ k = 4 ∨ k = 5 ∨ k = 6 ∨ k = 7 ∨ k = 8 ∨ k = 9 ∨ k = 10 ∨ k = 11 by omega) with e | e | e | e | e | e | e | e | e | e | e | e <;> subst e <;> decide +kernel
theorem tbi_01 (b k : Int) : 0 ≤ tbi b k ∧ tbi b k ≤ 1 := by
  unfold tbi
  split <;> omega
theorem sr_1 {b k : Int} (hb : 0 ≤ b) (hk : 0 ≤ k ∧ k < 12) : (iI b >>> (iI k &&& 31)) &&& iI 1 = iI (tbi b k) := by
  apply Int32.toBitVec_inj.1
  apply BitVec.eq_of_getLsbD_eq
  intro i hi
  rw [Int32.toBitVec_and, BitVec.getLsbD_and, Int32.toBitVec_shiftRight, sh_k hk, BitVec.sshiftRight_eq', BitVec.getLsbD_sshiftRight, gb_iI (show (0 : Int) ≤ 1 by omega) i hi, gb_iI (tbi_01 b k).1 i hi]
  have hkn : (BitVec.ofNat 32 k.toNat).toNat = k.toNat := by
    rw [BitVec.toNat_ofNat]
    omega
  rw [hkn]
  by_cases h0 : i = 0
  · subst h0
    rw [if_pos (by omega), gb_iI hb _ (by omega)]
    unfold tbi
    cases hz : b.toNat.testBit k.toNat <;> simp [hz]
  · have e1 : (1 : Int).toNat.testBit i = false := by
      apply Nat.testBit_lt_two_pow
      have := Nat.one_lt_two_pow (n := i) h0
      exact this
    have e2 : (tbi b k).toNat.testBit i = false := by
      apply Nat.testBit_lt_two_pow
      have := Nat.one_lt_two_pow (n := i) h0
      have := (tbi_01 b k)
      omega
    rw [e1, e2, Bool.and_false]
/-- bits that another row of bits doesn't have -/
theorem an_z (x y : Int32) : (x &&& (y ^^^ iI (-1))) = 0 ↔ ∀ i : Nat, i < 32 → x.toBitVec.getLsbD i = true → y.toBitVec.getLsbD i = true := by
  have hm : ∀ i : Nat, i < 32 → (iI (-1)).toBitVec.getLsbD i = true := by decide +kernel
  have h0 : ∀ i : Nat, i < 32 → (0 : Int32).toBitVec.getLsbD i = false := by decide +kernel
  rw [← Int32.toBitVec_inj, BitVec.eq_of_getLsbD_eq_iff]
  constructor
  · intro h i hi hx
    have h1 := h i hi
    rw [h0 i hi, Int32.toBitVec_and, BitVec.getLsbD_and, Int32.toBitVec_xor, BitVec.getLsbD_xor, hm i hi, hx] at h1
    cases hy : y.toBitVec.getLsbD i
    · rw [hy] at h1
      simp at h1
    · rfl
  · intro h i hi
    rw [h0 i hi, Int32.toBitVec_and, BitVec.getLsbD_and, Int32.toBitVec_xor, BitVec.getLsbD_xor, hm i hi]
    cases hx : x.toBitVec.getLsbD i
    · rfl
    · rw [h i hi hx]
      rfl
theorem or_k (y : Int32) {k : Int} (hk : 0 ≤ k ∧ k < 12) (i : Nat) (hi : i < 32) : (y ||| (iI 1 <<< (iI k &&& 31))).toBitVec.getLsbD i = (y.toBitVec.getLsbD i || decide ((i : Int) = k)) := by
  rw [Int32.toBitVec_or, BitVec.getLsbD_or, Int32.toBitVec_shiftLeft, sh_k hk, BitVec.getLsbD_shiftLeft', gb_iI (show (0 : Int) ≤ 1 by omega) _ (by omega)]
  have hkn : (BitVec.ofNat 32 k.toNat).toNat = k.toNat := by
    rw [BitVec.toNat_ofNat]
    omega
  rw [hkn]
  congr 1
  by_cases h : (i : Int) = k
  · have e : i - k.toNat = 0 := by omega
    have e2 : ¬ i < k.toNat := by omega
    simp [h, e, e2, hi]
  · by_cases h2 : i < k.toNat
    · simp [h, h2]
    · have e1 : (1 : Int).toNat.testBit (i - k.toNat) = false := by
        apply Nat.testBit_lt_two_pow
        exact Nat.one_lt_two_pow (n := i - k.toNat) (by omega)
      simp only [e1, Bool.and_false, h, decide_false]
def p2 (n : Int) : Int := ((2 ^ n.toNat : Nat) : Int)
theorem p2_sh {n : Int} (h : 0 ≤ n ∧ n ≤ 12) : iI 1 <<< (iI n &&& 31) = iI (p2 n) ∧ 1 ≤ p2 n ∧ p2 n ≤ 4096 := by
  rcases (show n = 0 ∨ n = 1 ∨ n = 2 ∨ n = 3 ∨ n = 4 ∨ n = 5 ∨ n = 6 ∨ n = 7 ∨ n = 8 ∨ n = 9 ∨ n = 10 ∨ n = 11 ∨ n = 12 by omega) with e | e | e | e | e | e | e | e | e | e | e | e | e <;> subst e <;> decide +kernel
theorem tb_hi {b n : Int} (hb : 0 ≤ b ∧ b < p2 n) {i : Nat} (hi : n.toNat ≤ i) : b.toNat.testBit i = false := by
  apply Nat.testBit_lt_two_pow
  have h1 := Nat.pow_le_pow_right (show 0 < 2 by omega) hi
  have h2 := hb.2
  unfold p2 at h2
  omega
