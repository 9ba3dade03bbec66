/-! floorDiv, the greatest common divisor, lowest terms, which of two fractions is more; Ratio, Range -/
/-- as Met.ofW, for the JDK's own names too -/
theorem met_ofWF {l : Launch} {y : MethodName} {ws ws' : List Cond} {rm : Room} {Pc : Array Value → State → Prop} {Qc : Array Value → State → Outcome → State → Prop} {mc ms : Nat} {free : Addr → Prop} {cc : ByteArray} {maxL : Nat} {ret : Option FieldType} (hy : plainFor y = true) (hw : ws = Cond.code y cc maxL ret :: ws') (body : ∀ p e s m args below meth c s₁, BodyLoose p l y (headSpec ws rm) cc maxL ret e s m args below meth c s₁ → c.maxLocals = maxL → Pc args s → W p l e (headSpec ws rm).room s m args below meth c s.heap [] 0 0 (MQ below Qc args s mc ms free) (entryFrame m args maxL)) : Met l y ws rm Pc Qc mc ms free := by
  refine MetFree.of_bodySF (code := cc) (maxLocals := maxL) (ret := ret) hy ?_ ?_
  · intro args s m h hn
    obtain ⟨meth, c, h1, h2, h3, h4, h5, h6, -, -⟩ := Cond.code_spec hn (atoms_spec (ws := ws) h _ (by rw [hw]; exact List.mem_cons_self))
    exact ⟨meth, c, h1, h2, h3, h4, h5, h6⟩
  · intro p e s m args below meth c s₁ B hml hP _
    have hh0 : s₁.heap = s.heap := by rw [B.state]; rfl
    obtain ⟨t, a1, o, b1, b2, b3⟩ := body p e s m args below meth c s₁ B hml hP s₁ hh0 (Stand.of_body B)
    exact ⟨t, o, a1, b1, b2, ⟨b3.1, b3.2⟩⟩
theorem Con.of_ZF {l : Launch} {M : zM} {rm : Room} {mc ms : Nat} {al : Bool} {av : List Value} {mem : List zE} {Q : Option Value → List zE → Prop} (hy : plainFor M.1 = true) (hd : zDec M) (hlen : (lg_sl av).length ≤ M.2.2.1) (h : Z (l, M, rm, (mc, ms), al, Q) 0 0 mem 0 (lv_args 0 av) []) : Con l M rm mc ms al av mem Q := by
  intro D cI cL ad0 sz
  refine met_ofWF (cc := M.2.1) (maxL := M.2.2.1) (ret := M.2.2.2.1) hy rfl ?_
  intro p e s m args below meth c s₁ B hml hv
  obtain ⟨rfl, hsz, hWd, hK, hNW⟩ := hv
  have hts := atoms_spec (ws := zws M) B.pre
  have hown : s.vm.findClass M.1.cls = some m.cls := findClass_of_methodNamed B.named
  have hin : meth.name = M.1.name := (name_of_methodNamed B.named B.method).1
  subst hsz
  have hl := lv_entry (av.map (zv ad0)) (n := M.2.2.1) (by rw [lg_sl_zv]; exact hlen)
  rw [lv_args_zv] at hl
  rw [lg_entry_eq]
  exact h D cI cL ad0 ad0 mem.length (zA mem ad0 s.heap.size) p e s m _ below meth c s.heap [] _ hd ⟨B.exec, B.bytes, hml, B.returns, B.notSynchronized, hown, hin, fun w hw => hts w (List.mem_cons_of_mem _ hw), hNW, hK⟩ hWd zAg.rf (Nat.le_refl _) (fun q hq => Or.inr hq) va_S.rf hl
def xr (x y : Int) : Int := (lI x ^^^ lI y).toInt
theorem xr_e (x y : Int) : lI x ^^^ lI y = lI (xr x y) := (lI_o _).symm
theorem msb_neg (x : Int64) : x.toBitVec.msb = true ↔ x.toInt < 0 := by
  rw [BitVec.msb_eq_toInt]
  exact decide_eq_true_iff
theorem xr_neg {x y : Int} (hx : inL x) (hy : inL y) : xr x y < 0 ↔ ((x < 0 ∧ 0 ≤ y) ∨ (0 ≤ x ∧ y < 0)) := by
  unfold xr
  rw [← msb_neg, Int64.toBitVec_xor, BitVec.msb_xor]
  have h1 := msb_neg (lI x)
  have h2 := msb_neg (lI y)
  rw [lI_t hx] at h1
  rw [lI_t hy] at h2
  cases hm1 : (lI x).toBitVec.msb <;> cases hm2 : (lI y).toBitVec.msb <;> simp only [hm1, hm2] at h1 h2 <;> simp at h1 h2 ⊢ <;> omega
theorem td_n {x y : Int} (h : 0 ≤ x) : x.tdiv y = x / y := Int.tdiv_eq_ediv_of_nonneg h
theorem td_z {x y : Int} (hy : 0 < y) (h : x.tdiv y * y = x) : x.tdiv y = x / y := by
  have := Int.mul_ediv_cancel (x.tdiv y) (show y ≠ 0 by omega)
  rw [h] at this
  exact this.symm
theorem td_m {x y : Int} (hy : 0 < y) (h0 : x < 0) (h : ¬ x.tdiv y * y = x) : x.tdiv y - 1 = x / y := by
  have h1 := Int.tmod_add_mul_tdiv x y
  have h2 : -y < x.tmod y ∧ x.tmod y ≤ 0 := by
    have a1 := Int.tmod_nonneg y (show 0 ≤ -x by omega)
    have a2 := Int.tmod_lt_of_pos (-x) hy
    rw [Int.neg_tmod] at a1 a2
    omega
  rw [Int.mul_comm] at h
  exact (((Int.ediv_emod_unique hy (r := x.tmod y + y) (q := x.tdiv y - 1)).mpr ⟨by rw [Int.mul_sub, Int.mul_one]; omega, by omega, by omega⟩).1).symm
theorem ed_bd {x y : Int} (hx : inL x) (hy : 0 < y) : inL (x / y) := by
  rcases Int.le_total 0 x with h | h
  · have h1 := Int.ediv_nonneg h (show 0 ≤ y by omega)
    have h2 := Int.ediv_le_self y h
    omega
  · have h1 : x / y ≤ 0 / y := Int.ediv_le_ediv hy h
    rw [Int.zero_ediv] at h1
    have h2 : x ≤ x / y := by
      refine Int.le_ediv_of_mul_le hy ?_
      have := Int.mul_le_mul_of_nonpos_left h (show 1 ≤ y by omega)
      omega
    omega
theorem c_floorDiv (l : Launch) (x y : Int) (hx : inL x) (hy : inL y) (h0 : 0 < y) : Con l M_J9_floorDiv R_J9_floorDiv 0 0 false [.long (lI x), .long (lI y)] [] (zAl (x / y) (fun m => m = [])) := by
  have b1 : inL (x.tdiv y) := by
    by_cases h : x.tdiv y * y = x
    · rw [td_z h0 h]; exact ed_bd hx h0
    · by_cases h2 : x < 0
      · have := td_m h0 h2 h
        have := ed_bd hx h0
        have := Int.ediv_le_ediv h0 (show x ≤ 0 by omega)
        rw [Int.zero_ediv] at this
        omega
      · rw [td_n (by omega)]; exact ed_bd hx h0
  have b2 : inL (x.tdiv y * y) := by
    have h1 := Int.tmod_add_mul_tdiv x y
    rw [Int.mul_comm] at h1
    rcases Int.le_total 0 x with h | h
    · have a1 := Int.tmod_nonneg y h
      have a2 := Int.tdiv_nonneg h (show 0 ≤ y by omega)
      have a3 := Int.mul_nonneg a2 (show 0 ≤ y by omega)
      omega
    · have a1 := Int.tmod_nonneg y (show 0 ≤ -x by omega)
      rw [Int.neg_tmod] at a1
      have a2 := Int.tdiv_nonneg (show 0 ≤ -x by omega) (show 0 ≤ y by omega)
      rw [Int.neg_tdiv] at a2
      have a3 := Int.mul_nonneg a2 (show 0 ≤ y by omega)
      rw [Int.neg_mul] at a3
      omega
  refine Con.of_ZF (by decide +kernel) D_J9_floorDiv (Nat.le_of_ble_eq_true rfl) ?_
  refine Z_lload_n 0 rfl rfl rfl ?_
  refine Z_lload_n 1 rfl rfl rfl ?_
  refine Z_ldiv 2 rfl (by omega) (by omega) (by omega) ?_
  refine Z_lstore 3 rfl (Nat.le_of_ble_eq_true rfl) (lv' := [(4, .long _), (0, .long _), (2, .long _)]) rfl ?_
  refine Z_lload_n 4 rfl rfl rfl ?_
  refine Z_lload_n 5 rfl rfl rfl ?_
  refine Z_lxor 6 rfl ?_
  refine Z_tl (xr_e x y) ?_
  refine Z_lconst 7 rfl ?_
  refine Z_lc_ge 8 rfl rfl (tgt := 27) rfl (lI_in _) (by omega) (fun c9 => ?_) (fun c9 => ?_)
  · refine Z_lload 20 rfl rfl ?_
    refine Z_lret 21 rfl rfl ⟨Nat.le_refl _, Nat.le_refl _⟩ ?_
    exact ⟨by first | rw [← td_z h0 c18] | rw [← td_n (by have := mt (xr_neg hx hy).mpr (by omega); omega)], rfl⟩
  · refine Z_lload 10 rfl rfl ?_
    refine Z_lload_n 11 rfl rfl rfl ?_
    refine Z_lmul 12 rfl ?_
    refine Z_lload_n 13 rfl rfl rfl ?_
    refine Z_lc_eq 14 rfl rfl (tgt := 27) rfl (by omega) (by omega) (fun c18 => ?_) (fun c18 => ?_)
    · refine Z_lload 20 rfl rfl ?_
      refine Z_lret 21 rfl rfl ⟨Nat.le_refl _, Nat.le_refl _⟩ ?_
      exact ⟨by first | rw [← td_z h0 c18] | rw [← td_n (by have := mt (xr_neg hx hy).mpr (by omega); omega)], rfl⟩
    · refine Z_lload 16 rfl rfl ?_
      refine Z_lconst 17 rfl ?_
      refine Z_lsub 18 rfl ?_
      refine Z_lret 19 rfl rfl ⟨Nat.le_refl _, Nat.le_refl _⟩ ?_
      exact ⟨by rw [← td_m h0 (by have := (xr_neg hx hy).mp (by omega); omega) c18]; rfl, rfl⟩
/-! the greatest common divisor -/
def pw : Nat → Int
  | 0 => 1
  | k + 1 => 2 * pw k
theorem pw_pos : ∀ k, 0 < pw k := by
  intro k
  induction k with
  | zero => show (0 : Int) < 1; omega
  | succ k ih => show 0 < 2 * pw k; omega
theorem gcd_st {x y : Int} (hx : 0 ≤ x) (hy : 0 ≤ y) : Int.gcd y (x.tmod y) = Int.gcd x y := by
  obtain ⟨a, rfl⟩ := Int.eq_ofNat_of_zero_le hx
  obtain ⟨b, rfl⟩ := Int.eq_ofNat_of_zero_le hy
  rw [← Int.ofNat_tmod]
  show Nat.gcd b (a % b) = Nat.gcd a b
  rw [Nat.gcd_comm b (a % b), ← Nat.gcd_rec, Nat.gcd_comm]
theorem tm_bd {x y : Int} (hx : 0 ≤ x) (hy : 0 < y) : 0 ≤ x.tmod y ∧ x.tmod y < y := ⟨Int.tmod_nonneg y hx, Int.tmod_lt_of_pos x hy⟩
theorem tm_two {x y : Int} (hx : 0 ≤ x) (hy : 0 < y) (h : y ≤ x) : 2 * x.tmod y < x := by
  have h1 := tm_bd hx hy
  rw [Int.tmod_eq_emod_of_nonneg hx] at h1 ⊢
  have h2 := Int.emod_add_mul_ediv x y
  have h3 : 1 ≤ x / y := Int.le_ediv_of_mul_le hy (by omega)
  have h4 := Int.mul_le_mul_of_nonneg_left h3 (show 0 ≤ y by omega)
  omega
/-- a step of Euclid's: the bound of the product falls, or the numbers change places once -/
def eu (x y : Int) (k i N : Nat) : Prop := x * y < pw k ∧ ((y ≤ x ∧ i + k ≤ N) ∨ i + k + 1 ≤ N)
theorem eu_st {x y : Int} {k i N : Nat} (hx : 0 ≤ x) (hy : 0 < y) (h : eu x y k i N) : ∃ k', eu y (x.tmod y) k' (i + 1) N := by
  have h1 := tm_bd hx hy
  rcases h.2 with ⟨h2, h3⟩ | h3
  · have h5 := tm_two hx hy h2
    have h6 := Int.mul_lt_mul_of_pos_left h5 hy
    cases k with
    | zero =>
      exfalso
      have h7 : x * y < 1 := h.1
      have h8 := Int.mul_pos (show 0 < x by omega) hy
      omega
    | succ k =>
      refine ⟨k, ?_, Or.inl ⟨by omega, by omega⟩⟩
      have h7 : x * y < 2 * pw k := h.1
      rw [Int.mul_comm x y] at h7
      rw [show y * (2 * x.tmod y) = 2 * (y * x.tmod y) by grind] at h6
      omega
  · by_cases h2 : y ≤ x
    · have h5 := tm_two hx hy h2
      have h6 := Int.mul_lt_mul_of_pos_left h5 hy
      refine ⟨k, ?_, Or.inl ⟨by omega, by omega⟩⟩
      have h7 := h.1
      rw [Int.mul_comm x y] at h7
      rw [show y * (2 * x.tmod y) = 2 * (y * x.tmod y) by grind] at h6
      have h8 := Int.mul_nonneg (show 0 ≤ y by omega) h1.1
      unfold eu at *
      omega
    · have e : x.tmod y = x := by rw [Int.tmod_eq_emod_of_nonneg hx]; exact Int.emod_eq_of_lt hx (by omega)
      rw [e]
      refine ⟨k, ?_, Or.inl ⟨by omega, by omega⟩⟩
      rw [Int.mul_comm]
      exact h.1
theorem eu_end {x y : Int} {k i N : Nat} (hx : 0 ≤ x) (hy : 0 ≤ y) (hi : N ≤ i) (h : eu x y k i N) : y = 0 := by
  rcases h.2 with ⟨h2, h3⟩ | h3
  · have e : k = 0 := by omega
    subst e
    have h7 : x * y < 1 := h.1
    by_cases h0 : y = 0
    · exact h0
    · exfalso
      have h8 := Int.mul_pos (show 0 < x by omega) (show 0 < y by omega)
      omega
  · omega
theorem eu_0 {x y : Int} (hx : 0 ≤ x ∧ x ≤ 9223372036854775807) (hy : 0 ≤ y ∧ y ≤ 9223372036854775807) : eu x y 126 0 200 := by
  refine ⟨?_, Or.inr (by omega)⟩
  have h := mul_bd hx hy
  have e : pw 126 = 85070591730234615865843651857942052864 := by decide +kernel
  rw [e]
  omega
theorem lp_C_commonDivisor (l : Launch) (g : Nat) : ∀ (d : Nat) (x y : Int) (i : Nat), (0 ≤ x ∧ x ≤ 9223372036854775807) → (0 ≤ y ∧ y ≤ 9223372036854775807) → i ≤ 200 → 200 - i < d → (∃ k, eu x y k i 200) → Int.gcd x y = g → Z (l, M_C_commonDivisor, R_C_commonDivisor, (0, 0), false, zAl (g : Int) (fun m => m = [])) 0 0 [] 15 [(4, .long (lI x)), (6, .long (lI y)), (8, .int (iI (i : Int)))] [] := by
  intro d
  induction d with
  | zero => intro x y i h1 h2 h3 h4; omega
  | succ d ih =>
    intro x y i h1 h2 h3 h4 ⟨k, h5⟩ h6
    refine Z_iload 8 rfl rfl ?_
    refine Z_sipush 9 rfl rfl ?_
    refine Z_icmp_ge 10 rfl (tgt := 51) rfl (by omega) (by omega) (fun c20 => ?_) (fun c20 => ?_)
    · refine Z_lload 25 rfl rfl ?_
      refine Z_lret 26 rfl rfl ⟨Nat.le_refl _, Nat.le_refl _⟩ ?_
      have e : y = 0 := by first | exact c26 | exact eu_end h1.1 h2.1 (by omega) h5
      rw [e, Int.gcd_zero_right] at h6
      exact ⟨by rw [← h6, Int.natAbs_of_nonneg h1.1], rfl⟩
    · refine Z_lload 11 rfl rfl ?_
      refine Z_lconst 12 rfl ?_
      refine Z_lc_eq 13 rfl rfl (tgt := 51) rfl (by omega) (by omega) (fun c26 => ?_) (fun c26 => ?_)
      · refine Z_lload 25 rfl rfl ?_
        refine Z_lret 26 rfl rfl ⟨Nat.le_refl _, Nat.le_refl _⟩ ?_
        have e : y = 0 := by first | exact c26 | exact eu_end h1.1 h2.1 (by omega) h5
        rw [e, Int.gcd_zero_right] at h6
        exact ⟨by rw [← h6, Int.natAbs_of_nonneg h1.1], rfl⟩
      · refine Z_lload 15 rfl rfl ?_
        refine Z_lload 16 rfl rfl ?_
        refine Z_lrem 17 rfl (by omega) (by omega) (by omega) ?_
        refine Z_lstore 18 rfl (Nat.le_of_ble_eq_true rfl) (lv' := [(9, .long _), (4, .long _), (6, .long _), (8, .int _)]) rfl ?_
        refine Z_lload 19 rfl rfl ?_
        refine Z_lstore 20 rfl (Nat.le_of_ble_eq_true rfl) (lv' := [(4, .long _), (9, .long _), (6, .long _), (8, .int _)]) rfl ?_
        refine Z_lload 21 rfl rfl ?_
        refine Z_lstore 22 rfl (Nat.le_of_ble_eq_true rfl) (lv' := [(6, .long _), (4, .long _), (9, .long _), (8, .int _)]) rfl ?_
        refine Z_iinc 23 rfl rfl (Nat.le_of_ble_eq_true rfl) (lv' := [(8, .int _), (6, .long _), (4, .long _), (9, .long _)]) rfl ?_
        refine Z_goto 24 rfl (tgt := 15) rfl ?_
        refine Z_pick [4, 6, 8] (lv' := [(4, .long _), (6, .long _), (8, .int _)]) rfl ?_
        have h7 := tm_bd h1.1 (show 0 < y by omega)
        exact ih y (x.tmod y) (i + 1) h2 (by omega) (by omega) (by omega) (eu_st h1.1 (by omega) h5) (by rw [gcd_st h1.1 h2.1]; exact h6)
theorem ab_gcd (a b : Int) : Int.gcd (ab a) (ab b) = Int.gcd a b := by
  have e : ∀ x, (ab x).natAbs = x.natAbs := by intro x; unfold ab; split <;> omega
  unfold Int.gcd
  rw [e, e]
theorem c_C_commonDivisor (l : Launch) (a b : Int) (ha : inL a ∧ a ≠ -9223372036854775808) (hb : inL b ∧ b ≠ -9223372036854775808) : Con l M_C_commonDivisor R_C_commonDivisor 0 0 false [.long (lI a), .long (lI b)] [] (zAl (Int.gcd a b : Nat) (fun m => m = [])) := by
  have h1 : 0 ≤ ab a ∧ ab a ≤ 9223372036854775807 := by unfold ab; split <;> omega
  have h2 : 0 ≤ ab b ∧ ab b ≤ 9223372036854775807 := by unfold ab; split <;> omega
  refine Con.of_Z (by decide) D_C_commonDivisor (Nat.le_of_ble_eq_true rfl) ?_
  refine Z_lload_n 0 rfl rfl rfl ?_
  refine Z_absL 1 rfl l_C_250 b_st_absL b_ini_Math b_cd_absL (by omega) (Nat.le_of_ble_eq_true rfl) ⟨Nat.le_of_ble_eq_true rfl, Nat.zero_le _, Nat.zero_le _⟩ ?_
  refine Z_cl (show _ = ab a from rfl) ?_
  refine Z_lstore 2 rfl (Nat.le_of_ble_eq_true rfl) (lv' := [(4, .long _), (0, .long _), (2, .long _)]) rfl ?_
  refine Z_lload_n 3 rfl rfl rfl ?_
  refine Z_absL 4 rfl l_C_250 b_st_absL b_ini_Math b_cd_absL (by omega) (Nat.le_of_ble_eq_true rfl) ⟨Nat.le_of_ble_eq_true rfl, Nat.zero_le _, Nat.zero_le _⟩ ?_
  refine Z_cl (show _ = ab b from rfl) ?_
  refine Z_lstore 5 rfl (Nat.le_of_ble_eq_true rfl) (lv' := [(6, .long _), (4, .long _), (0, .long _), (2, .long _)]) rfl ?_
  refine Z_iconst 6 rfl ?_
  refine Z_istore 7 rfl (Nat.le_of_ble_eq_true rfl) (lv' := [(8, .int _), (6, .long _), (4, .long _), (0, .long _), (2, .long _)]) rfl ?_
  refine Z_pick [4, 6, 8] (lv' := [(4, .long _), (6, .long _), (8, .int _)]) rfl ?_
  exact lp_C_commonDivisor l _ 201 (ab a) (ab b) 0 h1 h2 (by omega) (by omega) ⟨126, eu_0 h1 h2⟩ (ab_gcd a b)
/-- a fraction in lowest terms -/
def lo (a b p : Int) : Int := (if p = 0 then a else b).tdiv (Int.gcd a b : Nat)
theorem gcd_pos {a b : Int} (h : 0 < b) : 0 < ((Int.gcd a b : Nat) : Int) := by
  have := Int.gcd_pos_of_ne_zero_right a (show b ≠ 0 by omega)
  omega
theorem gcd_le {a b : Int} (h : 0 < b) : ((Int.gcd a b : Nat) : Int) ≤ b := Int.le_of_dvd h (Int.gcd_dvd_right ..)
theorem lo_mul (a b p : Int) {c : Int} (h : 0 < c) : lo (c * a) (c * b) p = lo a b p := by
  unfold lo
  rw [Int.gcd_mul_left, show (if p = 0 then c * a else c * b) = c * (if p = 0 then a else b) by split <;> rfl]
  have e : ((c.natAbs * Int.gcd a b : Nat) : Int) = c * ((Int.gcd a b : Nat) : Int) := by
    rw [Int.natCast_mul, Int.natAbs_of_nonneg (by omega)]
  rw [e, Int.mul_tdiv_mul_of_pos _ _ h]
theorem c_C_lowest (l : Launch) (a b p : Int) (ha : inL a ∧ a ≠ -9223372036854775808) (hb : 0 < b ∧ inL b) (hp : inI p) : Con l M_C_lowest R_C_lowest 0 0 false [.long (lI a), .long (lI b), .int (iI p)] [] (zAl (lo a b p) (fun m => m = [])) := by
  have h1 := gcd_pos (a := a) hb.1
  have h2 := gcd_le (a := a) hb.1
  refine Con.of_Z (by decide) D_C_lowest (Nat.le_of_ble_eq_true rfl) ?_
  refine Z_lload_n 0 rfl rfl rfl ?_
  refine Z_lload_n 1 rfl rfl rfl ?_
  refine Z_callSlp (M' := M_C_commonDivisor) 2 [] rfl l_C_393 C_C_commonDivisor (c_C_commonDivisor l a b ha (by omega)) ⟨List.nodup_nil, zEL.n⟩ rfl rfl rfl (Nat.le_of_ble_eq_true rfl) ⟨rfl, rfl, Nat.le_of_ble_eq_true rfl, Nat.le_of_ble_eq_true rfl⟩ ⟨Nat.zero_le _, Nat.zero_le _⟩ ?_
  refine Z_lstore 3 rfl (Nat.le_of_ble_eq_true rfl) (lv' := [(5, .long _), (0, .long _), (2, .long _), (4, .int _)]) rfl ?_
  refine Z_lload 4 rfl rfl ?_
  refine Z_lconst 5 rfl ?_
  refine Z_lc_ne 6 rfl rfl (tgt := 18) rfl (by omega) (by omega) (fun c10 => ?_) (fun c10 => ?_)
  rotate_left
  · exfalso; omega
  refine Z_iload 10 rfl rfl ?_
  refine Z_if_ne 11 rfl (tgt := 30) rfl (by omega) (fun c20 => ?_) (fun c20 => ?_)
  · refine Z_lload_n 16 rfl rfl rfl ?_
    refine Z_lload 17 rfl rfl ?_
    refine Z_ldiv 18 rfl (by omega) (by omega) (by omega) ?_
    refine Z_lret 19 rfl rfl ⟨Nat.le_refl _, Nat.le_refl _⟩ ?_
    exact ⟨by unfold lo; first | rw [if_pos (by omega)] | rw [if_neg (by omega)], rfl⟩
  · refine Z_lload_n 12 rfl rfl rfl ?_
    refine Z_lload 13 rfl rfl ?_
    refine Z_ldiv 14 rfl (by omega) (by omega) (by omega) ?_
    refine Z_goto 15 rfl (tgt := 34) rfl ?_
    refine Z_lret 19 rfl rfl ⟨Nat.le_refl _, Nat.le_refl _⟩ ?_
    exact ⟨by unfold lo; first | rw [if_pos (by omega)] | rw [if_neg (by omega)], rfl⟩
theorem bT {p : Prop} (h : p) : some (Value.int (iI 1)) = some (Value.int (iI (bI p))) := by rw [bI_t h]
theorem bF {p : Prop} (h : ¬ p) : some (Value.int (iI 0)) = some (Value.int (iI (bI p))) := by rw [bI_f h]
/-! which of two fractions is more -/
theorem mo_ne {a b c d : Int} (hb : 0 < b) (hd : 0 < d) (h : c / d < a / b) : c * b < a * d := by
  rcases Int.lt_or_le (c * b) (a * d) with h1 | h1
  · exact h1
  · exfalso
    have h2 : (a * d) / (b * d) ≤ (c * b) / (b * d) := Int.ediv_le_ediv (Int.mul_pos hb hd) h1
    rw [Int.mul_ediv_mul_of_pos_left _ _ hd, Int.mul_comm b d, Int.mul_ediv_mul_of_pos_left _ _ hb] at h2
    omega
theorem mo_eq {a b c d : Int} (h : a / b = c / d) : c * b < a * d ↔ (c % d) * b < (a % b) * d := by
  have h1 := Int.emod_add_mul_ediv a b
  have h2 := Int.emod_add_mul_ediv c d
  rw [← h] at h2
  have e1 : a * d = (a % b) * d + b * (a / b) * d := by rw [← Int.add_mul, h1]
  have e2 : c * b = (c % d) * b + d * (a / b) * b := by rw [← Int.add_mul, h2]
  have e3 : b * (a / b) * d = d * (a / b) * b := by grind
  omega
theorem lp_C_isMore (l : Launch) (p : Prop) : ∀ (n : Nat) (a b c d : Int) (i : Nat), (0 ≤ a ∧ inL a) → (0 < b ∧ inL b) → (0 ≤ c ∧ inL c) → (0 < d ∧ inL d) → i ≤ 100 → 100 - i < n → (∃ k, eu a b k i 100) → (∃ k, eu c d k i 100) → (p ↔ c * b < a * d) → Z (l, M_C_isMore, R_C_isMore, (0, 0), false, zAb p (fun m => m = [])) 0 0 [] 3 [(0, .long (lI a)), (2, .long (lI b)), (4, .long (lI c)), (6, .long (lI d)), (8, .int (iI (i : Int)))] [] := by
  intro n
  induction n with
  | zero => intro a b c d i h1 h2 h3 h4 h5 h6; omega
  | succ n ih =>
    intro a b c d i ha hb hc hd h5 h6 ⟨k1, h7⟩ ⟨k2, h8⟩ h9
    have r1 := tm_bd ha.1 hb.1
    have r2 := tm_bd hc.1 hd.1
    have q1 : inL (a.tdiv b) := by rw [td_n ha.1]; exact ed_bd ha.2 hb.1
    have q2 : inL (c.tdiv d) := by rw [td_n hc.1]; exact ed_bd hc.2 hd.1
    refine Z_iload 2 rfl rfl ?_
    refine Z_bipush 3 rfl rfl ?_
    refine Z_icmp_ge 4 rfl (tgt := 116) rfl (by omega) (by omega) (fun c7 => ?_) (fun c7 => ?_)
    · refine Z_iconst 67 rfl ?_
      refine Z_zret 68 rfl rfl rfl ⟨Nat.le_refl _, Nat.le_refl _⟩ ?_
      exfalso; first | (have e := eu_end ha.1 (by omega) (by omega) h7; omega) | omega
    · refine Z_lload_n 5 rfl rfl rfl ?_
      refine Z_lconst 6 rfl ?_
      refine Z_lc_le 7 rfl rfl (tgt := 116) rfl (by omega) (by omega) (fun c12 => ?_) (fun c12 => ?_)
      · refine Z_iconst 67 rfl ?_
        refine Z_zret 68 rfl rfl rfl ⟨Nat.le_refl _, Nat.le_refl _⟩ ?_
        exfalso; first | (have e := eu_end ha.1 (by omega) (by omega) h7; omega) | omega
      · refine Z_lload 9 rfl rfl ?_
        refine Z_lconst 10 rfl ?_
        refine Z_lc_le 11 rfl rfl (tgt := 116) rfl (by omega) (by omega) (fun c19 => ?_) (fun c19 => ?_)
        · refine Z_iconst 67 rfl ?_
          refine Z_zret 68 rfl rfl rfl ⟨Nat.le_refl _, Nat.le_refl _⟩ ?_
          exfalso; first | (have e := eu_end ha.1 (by omega) (by omega) h7; omega) | omega
        · refine Z_lload_n 13 rfl rfl rfl ?_
          refine Z_lload_n 14 rfl rfl rfl ?_
          refine Z_ldiv 15 rfl (by omega) (by omega) (by omega) ?_
          refine Z_lstore 16 rfl (Nat.le_of_ble_eq_true rfl) (lv' := [(9, .long _), (0, .long _), (2, .long _), (4, .long _), (6, .long _), (8, .int _)]) rfl ?_
          refine Z_lload 17 rfl rfl ?_
          refine Z_lload 18 rfl rfl ?_
          refine Z_ldiv 19 rfl (by omega) (by omega) (by omega) ?_
          refine Z_lstore 20 rfl (Nat.le_of_ble_eq_true rfl) (lv' := [(11, .long _), (9, .long _), (0, .long _), (2, .long _), (4, .long _), (6, .long _), (8, .int _)]) rfl ?_
          refine Z_lload 21 rfl rfl ?_
          refine Z_lload 22 rfl rfl ?_
          refine Z_lc_eq 23 rfl rfl (tgt := 57) rfl q1 q2 (fun c39 => ?_) (fun c39 => ?_)
          · refine Z_lload_n 33 rfl rfl rfl ?_
            refine Z_lload_n 34 rfl rfl rfl ?_
            refine Z_lrem 35 rfl (by omega) (by omega) (by omega) ?_
            refine Z_lstore 36 rfl (Nat.le_of_ble_eq_true rfl) (lv' := [(13, .long _), (11, .long _), (9, .long _), (0, .long _), (2, .long _), (4, .long _), (6, .long _), (8, .int _)]) rfl ?_
            refine Z_lload 37 rfl rfl ?_
            refine Z_lload 38 rfl rfl ?_
            refine Z_lrem 39 rfl (by omega) (by omega) (by omega) ?_
            refine Z_lstore 40 rfl (Nat.le_of_ble_eq_true rfl) (lv' := [(15, .long _), (13, .long _), (11, .long _), (9, .long _), (0, .long _), (2, .long _), (4, .long _), (6, .long _), (8, .int _)]) rfl ?_
            refine Z_lload 41 rfl rfl ?_
            rw [td_n ha.1, td_n hc.1] at c39
            rw [mo_eq c39, ← Int.tmod_eq_emod_of_nonneg ha.1, ← Int.tmod_eq_emod_of_nonneg hc.1] at h9
            refine Z_lconst 42 rfl ?_
            refine Z_lc_eq 43 rfl rfl (tgt := 83) rfl (by omega) (by omega) (fun c72 => ?_) (fun c72 => ?_)
            · refine Z_lload 49 rfl rfl ?_
              refine Z_lload 50 rfl rfl ?_
              refine Z_lc_le 51 rfl rfl (tgt := 95) rfl (by omega) (by omega) (fun c87 => ?_) (fun c87 => ?_)
              · refine Z_iconst 55 rfl ?_
                refine Z_zret 56 rfl rfl rfl ⟨Nat.le_refl _, Nat.le_refl _⟩ ?_
                have g1 : 0 < c.tmod d → 0 < c.tmod d * b := fun z => Int.mul_pos z hb.1
                have g2 : 0 < a.tmod b → 0 < a.tmod b * d := fun z => Int.mul_pos z hd.1
                have g3 : c.tmod d = 0 → c.tmod d * b = 0 := fun z => by rw [z, Int.zero_mul]
                have g4 : a.tmod b = 0 → a.tmod b * d = 0 := fun z => by rw [z, Int.zero_mul]
                first | exact ⟨bT (h9.mpr (by omega)), rfl⟩ | exact ⟨bF (fun z => by have := h9.mp z; omega), rfl⟩
              · refine Z_iconst 53 rfl ?_
                refine Z_goto 54 rfl (tgt := 96) rfl ?_
                refine Z_zret 56 rfl rfl rfl ⟨Nat.le_refl _, Nat.le_refl _⟩ ?_
                have g1 : 0 < c.tmod d → 0 < c.tmod d * b := fun z => Int.mul_pos z hb.1
                have g2 : 0 < a.tmod b → 0 < a.tmod b * d := fun z => Int.mul_pos z hd.1
                have g3 : c.tmod d = 0 → c.tmod d * b = 0 := fun z => by rw [z, Int.zero_mul]
                have g4 : a.tmod b = 0 → a.tmod b * d = 0 := fun z => by rw [z, Int.zero_mul]
                first | exact ⟨bT (h9.mpr (by omega)), rfl⟩ | exact ⟨bF (fun z => by have := h9.mp z; omega), rfl⟩
            · refine Z_lload 45 rfl rfl ?_
              refine Z_lconst 46 rfl ?_
              refine Z_lc_ne 47 rfl rfl (tgt := 97) rfl (by omega) (by omega) (fun c79 => ?_) (fun c79 => ?_)
              · refine Z_lload 57 rfl rfl ?_
                refine Z_lstore_n 58 rfl rfl (Nat.le_of_ble_eq_true rfl) (lv' := [(0, .long _), (15, .long _), (13, .long _), (11, .long _), (9, .long _), (2, .long _), (4, .long _), (6, .long _), (8, .int _)]) rfl ?_
                refine Z_lload_n 59 rfl rfl rfl ?_
                refine Z_lstore 60 rfl (Nat.le_of_ble_eq_true rfl) (lv' := [(4, .long _), (0, .long _), (15, .long _), (13, .long _), (11, .long _), (9, .long _), (2, .long _), (6, .long _), (8, .int _)]) rfl ?_
                refine Z_lload 61 rfl rfl ?_
                refine Z_lstore_n 62 rfl rfl (Nat.le_of_ble_eq_true rfl) (lv' := [(2, .long _), (4, .long _), (0, .long _), (15, .long _), (13, .long _), (11, .long _), (9, .long _), (6, .long _), (8, .int _)]) rfl ?_
                refine Z_lload 63 rfl rfl ?_
                refine Z_lstore 64 rfl (Nat.le_of_ble_eq_true rfl) (lv' := [(6, .long _), (2, .long _), (4, .long _), (0, .long _), (15, .long _), (13, .long _), (11, .long _), (9, .long _), (8, .int _)]) rfl ?_
                refine Z_iinc 65 rfl rfl (Nat.le_of_ble_eq_true rfl) (lv' := [(8, .int _), (6, .long _), (2, .long _), (4, .long _), (0, .long _), (15, .long _), (13, .long _), (11, .long _), (9, .long _)]) rfl ?_
                refine Z_goto 66 rfl (tgt := 3) rfl ?_
                refine Z_pick [0, 2, 4, 6, 8] (lv' := [(0, .long _), (2, .long _), (4, .long _), (6, .long _), (8, .int _)]) rfl ?_
                exact ih d (c.tmod d) b (a.tmod b) (i + 1) (by omega) (by omega) (by omega) (by omega) (by omega) (by omega) (eu_st hc.1 hd.1 h8) (eu_st ha.1 hb.1 h7) (by rw [h9, Int.mul_comm b, Int.mul_comm d])
              · refine Z_lload 49 rfl rfl ?_
                refine Z_lload 50 rfl rfl ?_
                refine Z_lc_le 51 rfl rfl (tgt := 95) rfl (by omega) (by omega) (fun c87 => ?_) (fun c87 => ?_)
                · refine Z_iconst 55 rfl ?_
                  refine Z_zret 56 rfl rfl rfl ⟨Nat.le_refl _, Nat.le_refl _⟩ ?_
                  have g1 : 0 < c.tmod d → 0 < c.tmod d * b := fun z => Int.mul_pos z hb.1
                  have g2 : 0 < a.tmod b → 0 < a.tmod b * d := fun z => Int.mul_pos z hd.1
                  have g3 : c.tmod d = 0 → c.tmod d * b = 0 := fun z => by rw [z, Int.zero_mul]
                  have g4 : a.tmod b = 0 → a.tmod b * d = 0 := fun z => by rw [z, Int.zero_mul]
                  first | exact ⟨bT (h9.mpr (by omega)), rfl⟩ | exact ⟨bF (fun z => by have := h9.mp z; omega), rfl⟩
                · refine Z_iconst 53 rfl ?_
                  refine Z_goto 54 rfl (tgt := 96) rfl ?_
                  refine Z_zret 56 rfl rfl rfl ⟨Nat.le_refl _, Nat.le_refl _⟩ ?_
                  have g1 : 0 < c.tmod d → 0 < c.tmod d * b := fun z => Int.mul_pos z hb.1
                  have g2 : 0 < a.tmod b → 0 < a.tmod b * d := fun z => Int.mul_pos z hd.1
                  have g3 : c.tmod d = 0 → c.tmod d * b = 0 := fun z => by rw [z, Int.zero_mul]
                  have g4 : a.tmod b = 0 → a.tmod b * d = 0 := fun z => by rw [z, Int.zero_mul]
                  first | exact ⟨bT (h9.mpr (by omega)), rfl⟩ | exact ⟨bF (fun z => by have := h9.mp z; omega), rfl⟩
          · refine Z_lload 25 rfl rfl ?_
            refine Z_lload 26 rfl rfl ?_
            rw [td_n ha.1, td_n hc.1] at c39
            refine Z_lc_le 27 rfl rfl (tgt := 55) rfl q1 q2 (fun c47 => ?_) (fun c47 => ?_)
            · refine Z_iconst 31 rfl ?_
              refine Z_zret 32 rfl rfl rfl ⟨Nat.le_refl _, Nat.le_refl _⟩ ?_
              rw [td_n ha.1, td_n hc.1] at c47
              first | exact ⟨bT (h9.mpr (mo_ne hb.1 hd.1 (by omega))), rfl⟩ | exact ⟨bF (fun z => by have := h9.mp z; have := mo_ne hd.1 hb.1 (show a / b < c / d by omega); omega), rfl⟩
            · refine Z_iconst 29 rfl ?_
              refine Z_goto 30 rfl (tgt := 56) rfl ?_
              refine Z_zret 32 rfl rfl rfl ⟨Nat.le_refl _, Nat.le_refl _⟩ ?_
              rw [td_n ha.1, td_n hc.1] at c47
              first | exact ⟨bT (h9.mpr (mo_ne hb.1 hd.1 (by omega))), rfl⟩ | exact ⟨bF (fun z => by have := h9.mp z; have := mo_ne hd.1 hb.1 (show a / b < c / d by omega); omega), rfl⟩
theorem c_C_isMore (l : Launch) (a b c d : Int) (ha : 0 ≤ a ∧ inL a) (hb : 0 < b ∧ inL b) (hc : 0 ≤ c ∧ inL c) (hd : 0 < d ∧ inL d) (h1 : a * b < 79228162514264337593543950336) (h2 : c * d < 79228162514264337593543950336) : Con l M_C_isMore R_C_isMore 0 0 false [.long (lI a), .long (lI b), .long (lI c), .long (lI d)] [] (zAb (c * b < a * d) (fun m => m = [])) := by
  have e : pw 96 = 79228162514264337593543950336 := by decide +kernel
  refine Con.of_Z (by decide) D_C_isMore (Nat.le_of_ble_eq_true rfl) ?_
  refine Z_iconst 0 rfl ?_
  refine Z_istore 1 rfl (Nat.le_of_ble_eq_true rfl) (lv' := [(8, .int _), (0, .long _), (2, .long _), (4, .long _), (6, .long _)]) rfl ?_
  refine Z_pick [0, 2, 4, 6, 8] (lv' := [(0, .long _), (2, .long _), (4, .long _), (6, .long _), (8, .int _)]) rfl ?_
  exact lp_C_isMore l _ 101 a b c d 0 ha hb hc hd (by omega) (by omega) ⟨96, by rw [← e] at h1; exact ⟨h1, Or.inr (by omega)⟩⟩ ⟨96, by rw [← e] at h2; exact ⟨h2, Or.inr (by omega)⟩⟩ Iff.rfl
theorem c_C_isPart (l : Launch) (p : Int) (hp : inI p) : Con l M_C_isPart R_C_isPart 0 0 false [.int (iI p)] [] (zAb (p = 0 ∨ p = 1) (fun m => m = [])) := by
  refine Con.of_Z (by decide) D_C_isPart (Nat.le_of_ble_eq_true rfl) ?_
  refine Z_iload_n 0 rfl rfl rfl ?_
  refine Z_if_eq 1 rfl (tgt := 9) rfl (by omega) (fun c1 => ?_) (fun c1 => ?_)
  · refine Z_iconst 5 rfl ?_
    refine Z_goto 6 rfl (tgt := 14) rfl ?_
    refine Z_zret 8 rfl rfl rfl ⟨Nat.le_refl _, Nat.le_refl _⟩ ?_
    exact ⟨by first | rw [bI_t (by omega)] | rw [bI_f (by omega)], rfl⟩
  · refine Z_iload_n 2 rfl rfl rfl ?_
    refine Z_iconst 3 rfl ?_
    refine Z_icmp_ne 4 rfl (tgt := 13) rfl (by omega) (by omega) (fun c6 => ?_) (fun c6 => ?_)
    · refine Z_iconst 7 rfl ?_
      refine Z_zret 8 rfl rfl rfl ⟨Nat.le_refl _, Nat.le_refl _⟩ ?_
      exact ⟨by first | rw [bI_t (by omega)] | rw [bI_f (by omega)], rfl⟩
    · refine Z_iconst 5 rfl ?_
      refine Z_goto 6 rfl (tgt := 14) rfl ?_
      refine Z_zret 8 rfl rfl rfl ⟨Nat.le_refl _, Nat.le_refl _⟩ ?_
      exact ⟨by first | rw [bI_t (by omega)] | rw [bI_f (by omega)], rfl⟩
/-- a piece that may be -/
def mb (k n r : Int) : Prop := (0 ≤ k ∧ k ≤ 5) ∧ (1 ≤ n ∧ n ≤ 360) ∧ (-99 ≤ r ∧ r ≤ 99) ∧ (k = 0 ↔ r = 0)
theorem c_C_mayBe (l : Launch) (k n r : Int) (hk : inI k) (hn : inI n) (hr : inI r) : Con l M_C_mayBe R_C_mayBe 0 0 false [.int (iI k), .int (iI n), .int (iI r)] [] (zAb (mb k n r) (fun m => m = [])) := by
  refine Con.of_Z (by decide) D_C_mayBe (Nat.le_of_ble_eq_true rfl) ?_
  refine Z_iload_n 0 rfl rfl rfl ?_
  refine Z_if_lt 1 rfl (tgt := 22) rfl (by omega) (fun c1 => ?_) (fun c1 => ?_)
  · refine Z_iconst 11 rfl ?_
    refine Z_zret 12 rfl rfl rfl ⟨Nat.le_refl _, Nat.le_refl _⟩ ?_
    first | (exfalso; omega) | exact ⟨bT (by unfold mb; omega), rfl⟩ | exact ⟨bF (by unfold mb; omega), rfl⟩
  · refine Z_iload_n 2 rfl rfl rfl ?_
    refine Z_bipush 3 rfl rfl ?_
    refine Z_icmp_ge 4 rfl (tgt := 22) rfl (by omega) (by omega) (fun c7 => ?_) (fun c7 => ?_)
    · refine Z_iconst 11 rfl ?_
      refine Z_zret 12 rfl rfl rfl ⟨Nat.le_refl _, Nat.le_refl _⟩ ?_
      first | (exfalso; omega) | exact ⟨bT (by unfold mb; omega), rfl⟩ | exact ⟨bF (by unfold mb; omega), rfl⟩
    · refine Z_iload_n 5 rfl rfl rfl ?_
      refine Z_iconst 6 rfl ?_
      refine Z_icmp_lt 7 rfl (tgt := 22) rfl (by omega) (by omega) (fun c12 => ?_) (fun c12 => ?_)
      · refine Z_iconst 11 rfl ?_
        refine Z_zret 12 rfl rfl rfl ⟨Nat.le_refl _, Nat.le_refl _⟩ ?_
        first | (exfalso; omega) | exact ⟨bT (by unfold mb; omega), rfl⟩ | exact ⟨bF (by unfold mb; omega), rfl⟩
      · refine Z_iload_n 8 rfl rfl rfl ?_
        refine Z_sipush 9 rfl rfl ?_
        refine Z_icmp_le 10 rfl (tgt := 24) rfl (by omega) (by omega) (fun c19 => ?_) (fun c19 => ?_)
        · refine Z_iload_n 13 rfl rfl rfl ?_
          refine Z_bipush 14 rfl rfl ?_
          refine Z_icmp_lt 15 rfl (tgt := 61) rfl (by omega) (by omega) (fun c27 => ?_) (fun c27 => ?_)
          · refine Z_iconst 32 rfl ?_
            refine Z_zret 33 rfl rfl rfl ⟨Nat.le_refl _, Nat.le_refl _⟩ ?_
            first | (exfalso; omega) | exact ⟨bT (by unfold mb; omega), rfl⟩ | exact ⟨bF (by unfold mb; omega), rfl⟩
          · refine Z_iload_n 16 rfl rfl rfl ?_
            refine Z_bipush 17 rfl rfl ?_
            refine Z_icmp_gt 18 rfl (tgt := 61) rfl (by omega) (by omega) (fun c33 => ?_) (fun c33 => ?_)
            · refine Z_iconst 32 rfl ?_
              refine Z_zret 33 rfl rfl rfl ⟨Nat.le_refl _, Nat.le_refl _⟩ ?_
              first | (exfalso; omega) | exact ⟨bT (by unfold mb; omega), rfl⟩ | exact ⟨bF (by unfold mb; omega), rfl⟩
            · refine Z_iload_n 19 rfl rfl rfl ?_
              refine Z_if_ne 20 rfl (tgt := 44) rfl (by omega) (fun c37 => ?_) (fun c37 => ?_)
              · refine Z_iconst 23 rfl ?_
                refine Z_iload_n 24 rfl rfl rfl ?_
                refine Z_if_ne 25 rfl (tgt := 53) rfl (by omega) (fun c46 => ?_) (fun c46 => ?_)
                · refine Z_iconst 28 rfl ?_
                  refine Z_icmp_ne 29 rfl (tgt := 61) rfl (by omega) (by omega) (fun c54 => ?_) (fun c54 => ?_)
                  · refine Z_iconst 32 rfl ?_
                    refine Z_zret 33 rfl rfl rfl ⟨Nat.le_refl _, Nat.le_refl _⟩ ?_
                    first | (exfalso; omega) | exact ⟨bT (by unfold mb; omega), rfl⟩ | exact ⟨bF (by unfold mb; omega), rfl⟩
                  · refine Z_iconst 30 rfl ?_
                    refine Z_goto 31 rfl (tgt := 62) rfl ?_
                    refine Z_zret 33 rfl rfl rfl ⟨Nat.le_refl _, Nat.le_refl _⟩ ?_
                    first | (exfalso; omega) | exact ⟨bT (by unfold mb; omega), rfl⟩ | exact ⟨bF (by unfold mb; omega), rfl⟩
                · refine Z_iconst 26 rfl ?_
                  refine Z_goto 27 rfl (tgt := 54) rfl ?_
                  refine Z_icmp_ne 29 rfl (tgt := 61) rfl (by omega) (by omega) (fun c54 => ?_) (fun c54 => ?_)
                  · refine Z_iconst 32 rfl ?_
                    refine Z_zret 33 rfl rfl rfl ⟨Nat.le_refl _, Nat.le_refl _⟩ ?_
                    first | (exfalso; omega) | exact ⟨bT (by unfold mb; omega), rfl⟩ | exact ⟨bF (by unfold mb; omega), rfl⟩
                  · refine Z_iconst 30 rfl ?_
                    refine Z_goto 31 rfl (tgt := 62) rfl ?_
                    refine Z_zret 33 rfl rfl rfl ⟨Nat.le_refl _, Nat.le_refl _⟩ ?_
                    first | (exfalso; omega) | exact ⟨bT (by unfold mb; omega), rfl⟩ | exact ⟨bF (by unfold mb; omega), rfl⟩
              · refine Z_iconst 21 rfl ?_
                refine Z_goto 22 rfl (tgt := 45) rfl ?_
                refine Z_iload_n 24 rfl rfl rfl ?_
                refine Z_if_ne 25 rfl (tgt := 53) rfl (by omega) (fun c46 => ?_) (fun c46 => ?_)
                · refine Z_iconst 28 rfl ?_
                  refine Z_icmp_ne 29 rfl (tgt := 61) rfl (by omega) (by omega) (fun c54 => ?_) (fun c54 => ?_)
                  · refine Z_iconst 32 rfl ?_
                    refine Z_zret 33 rfl rfl rfl ⟨Nat.le_refl _, Nat.le_refl _⟩ ?_
                    first | (exfalso; omega) | exact ⟨bT (by unfold mb; omega), rfl⟩ | exact ⟨bF (by unfold mb; omega), rfl⟩
                  · refine Z_iconst 30 rfl ?_
                    refine Z_goto 31 rfl (tgt := 62) rfl ?_
                    refine Z_zret 33 rfl rfl rfl ⟨Nat.le_refl _, Nat.le_refl _⟩ ?_
                    first | (exfalso; omega) | exact ⟨bT (by unfold mb; omega), rfl⟩ | exact ⟨bF (by unfold mb; omega), rfl⟩
                · refine Z_iconst 26 rfl ?_
                  refine Z_goto 27 rfl (tgt := 54) rfl ?_
                  refine Z_icmp_ne 29 rfl (tgt := 61) rfl (by omega) (by omega) (fun c54 => ?_) (fun c54 => ?_)
                  · refine Z_iconst 32 rfl ?_
                    refine Z_zret 33 rfl rfl rfl ⟨Nat.le_refl _, Nat.le_refl _⟩ ?_
                    first | (exfalso; omega) | exact ⟨bT (by unfold mb; omega), rfl⟩ | exact ⟨bF (by unfold mb; omega), rfl⟩
                  · refine Z_iconst 30 rfl ?_
                    refine Z_goto 31 rfl (tgt := 62) rfl ?_
                    refine Z_zret 33 rfl rfl rfl ⟨Nat.le_refl _, Nat.le_refl _⟩ ?_
                    first | (exfalso; omega) | exact ⟨bT (by unfold mb; omega), rfl⟩ | exact ⟨bF (by unfold mb; omega), rfl⟩
        · refine Z_iconst 11 rfl ?_
          refine Z_zret 12 rfl rfl rfl ⟨Nat.le_refl _, Nat.le_refl _⟩ ?_
          first | (exfalso; omega) | exact ⟨bT (by unfold mb; omega), rfl⟩ | exact ⟨bF (by unfold mb; omega), rfl⟩
/-! Ratio -/
def eQ (a b : Int) : List zE := [zO 1 [.long (lI a), .long (lI b)]]
theorem c_Q_become (l : Launch) (a b x y : Int) : Con l M_Q_become R_Q_become 0 0 false [.ref 0, .long (lI x), .long (lI y)] (eQ a b) (zAv (fun m => m = eQ x y)) := by
  refine Con.of_Z (by decide) D_Q_become (Nat.le_of_ble_eq_true rfl) ?_
  refine Z_aload_n 0 rfl rfl rfl ?_
  refine Z_lload_n 1 rfl rfl rfl ?_
  refine Z_put 2 rfl f_Q_7 rfl (Nat.le_of_ble_eq_true rfl) (fun _ => ⟨rfl, rfl⟩) (fs' := []) (mem' := eQ x b) rfl ?_
  refine Z_aload_n 3 rfl rfl rfl ?_
  refine Z_lload_n 4 rfl rfl rfl ?_
  refine Z_put 5 rfl f_Q_13 rfl (Nat.le_of_ble_eq_true rfl) (fun _ => ⟨rfl, rfl⟩) (fs' := []) (mem' := eQ x y) rfl ?_
  refine Z_vret 6 rfl rfl ⟨Nat.le_refl _, Nat.le_refl _⟩ ?_
  exact ⟨rfl, rfl⟩
theorem c_Q_lower (l : Launch) (a b : Int) (ha : inL a ∧ a ≠ -9223372036854775808) (hb : 0 < b ∧ inL b) : Con l M_Q_lower R_Q_lower 0 0 false [.ref 0] (eQ a b) (zAv (fun m => m = eQ (lo a b 0) (lo a b 1))) := by
  have h1 := gcd_pos (a := a) hb.1
  have h2 := gcd_le (a := a) hb.1
  refine Con.of_Z (by decide) D_Q_lower (Nat.le_of_ble_eq_true rfl) ?_
  refine Z_aload_n 0 rfl rfl rfl ?_
  refine Z_get 1 rfl f_Q_7 rfl rfl ?_
  refine Z_aload_n 2 rfl rfl rfl ?_
  refine Z_get 3 rfl f_Q_13 rfl rfl ?_
  refine Z_callSNlp (M' := M_C_commonDivisor) 4 [] rfl l_Q_16 C_C_commonDivisor (c_C_commonDivisor l a b ha (by omega)) ⟨List.nodup_nil, zEL.n⟩ rfl rfl rfl (Nat.le_of_ble_eq_true rfl) ⟨rfl, rfl, Nat.le_of_ble_eq_true rfl, Nat.le_of_ble_eq_true rfl⟩ ⟨Nat.zero_le _, Nat.zero_le _⟩ ?_
  refine Z_lstore_n 5 rfl rfl (Nat.le_of_ble_eq_true rfl) (lv' := [(1, .long _), (0, .ref _)]) rfl ?_
  refine Z_lload_n 6 rfl rfl rfl ?_
  refine Z_lconst 7 rfl ?_
  refine Z_lc_ne 8 rfl rfl (tgt := 19) rfl (by omega) (by omega) (fun c14 => ?_) (fun c14 => ?_)
  rotate_left
  · exfalso; omega
  refine Z_aload_n 11 rfl rfl rfl ?_
  refine Z_dup 12 rfl rfl ?_
  refine Z_get 13 rfl f_Q_7 rfl rfl ?_
  refine Z_lload_n 14 rfl rfl rfl ?_
  refine Z_ldiv 15 rfl (by omega) (by omega) (by omega) ?_
  refine Z_put 16 rfl f_Q_7 rfl (Nat.le_of_ble_eq_true rfl) (fun _ => ⟨rfl, rfl⟩) (fs' := []) (mem' := eQ (lo a b 0) b) rfl ?_
  refine Z_aload_n 17 rfl rfl rfl ?_
  refine Z_dup 18 rfl rfl ?_
  refine Z_get 19 rfl f_Q_13 rfl rfl ?_
  refine Z_lload_n 20 rfl rfl rfl ?_
  refine Z_ldiv 21 rfl (by omega) (by omega) (by omega) ?_
  refine Z_put 22 rfl f_Q_13 rfl (Nat.le_of_ble_eq_true rfl) (fun _ => ⟨rfl, rfl⟩) (fs' := []) (mem' := eQ (lo a b 0) (lo a b 1)) rfl ?_
  refine Z_vret 23 rfl rfl ⟨Nat.le_refl _, Nat.le_refl _⟩ ?_
  exact ⟨rfl, rfl⟩
def eQQ (a b c d : Int) : List zE := [zO 1 [.long (lI a), .long (lI b)], zO 1 [.long (lI c), .long (lI d)]]
theorem c_Q_take (l : Launch) (a b c d : Int) : Con l M_Q_take R_Q_take 0 0 false [.ref 0, .ref 1] (eQQ a b c d) (zAv (fun m => m = eQQ (a * d - c * b) (b * d) c d)) := by
  refine Con.of_Z (by decide) D_Q_take (Nat.le_of_ble_eq_true rfl) ?_
  refine Z_aload_n 0 rfl rfl rfl ?_
  refine Z_aload_n 1 rfl rfl rfl ?_
  refine Z_get 2 rfl f_Q_7 rfl rfl ?_
  refine Z_aload_n 3 rfl rfl rfl ?_
  refine Z_get 4 rfl f_Q_13 rfl rfl ?_
  refine Z_lmul 5 rfl ?_
  refine Z_aload_n 6 rfl rfl rfl ?_
  refine Z_get 7 rfl f_Q_7 rfl rfl ?_
  refine Z_aload_n 8 rfl rfl rfl ?_
  refine Z_get 9 rfl f_Q_13 rfl rfl ?_
  refine Z_lmul 10 rfl ?_
  refine Z_lsub 11 rfl ?_
  refine Z_put 12 rfl f_Q_7 rfl (Nat.le_of_ble_eq_true rfl) (fun _ => ⟨rfl, rfl⟩) (fs' := []) (mem' := eQQ (a * d - c * b) b c d) rfl ?_
  refine Z_aload_n 13 rfl rfl rfl ?_
  refine Z_aload_n 14 rfl rfl rfl ?_
  refine Z_get 15 rfl f_Q_13 rfl rfl ?_
  refine Z_aload_n 16 rfl rfl rfl ?_
  refine Z_get 17 rfl f_Q_13 rfl rfl ?_
  refine Z_lmul 18 rfl ?_
  refine Z_put 19 rfl f_Q_13 rfl (Nat.le_of_ble_eq_true rfl) (fun _ => ⟨rfl, rfl⟩) (fs' := []) (mem' := eQQ (a * d - c * b) (b * d) c d) rfl ?_
  refine Z_vret 20 rfl rfl ⟨Nat.le_refl _, Nat.le_refl _⟩ ?_
  exact ⟨rfl, rfl⟩
/-! Range -/
abbrev RR : Type := Int × Int × Int
def eR (r : RR) : List zE := [zO 0 [.long (lI r.1), .long (lI r.2.1), .int (iI r.2.2)]]
def RB (r : RR) : Prop := inL r.1 ∧ inL r.2.1 ∧ (r.2.2 = 0 ∨ r.2.2 = 1)
def InR (r : RR) (x : Int) : Prop := r.2.2 = 0 ∧ r.1 ≤ x ∧ x ≤ r.2.1
theorem c_R_open (l : Launch) (r : RR) (x y : Int) : Con l M_R_open R_R_open 0 0 false [.ref 0, .long (lI x), .long (lI y)] (eR r) (zAv (fun m => m = eR (x, y, 0))) := by
  refine Con.of_Z (by decide) D_R_open (Nat.le_of_ble_eq_true rfl) ?_
  refine Z_aload_n 0 rfl rfl rfl ?_
  refine Z_lload_n 1 rfl rfl rfl ?_
  refine Z_put 2 rfl f_R_9 rfl (Nat.le_of_ble_eq_true rfl) (fun _ => ⟨rfl, rfl⟩) (fs' := []) (mem' := eR (x, r.2.1, r.2.2)) rfl ?_
  refine Z_aload_n 3 rfl rfl rfl ?_
  refine Z_lload_n 4 rfl rfl rfl ?_
  refine Z_put 5 rfl f_R_15 rfl (Nat.le_of_ble_eq_true rfl) (fun _ => ⟨rfl, rfl⟩) (fs' := []) (mem' := eR (x, y, r.2.2)) rfl ?_
  refine Z_aload_n 6 rfl rfl rfl ?_
  refine Z_iconst 7 rfl ?_
  refine Z_put 8 rfl f_R_18 rfl (Nat.le_of_ble_eq_true rfl) (fun _ => ⟨rfl, rfl⟩) (fs' := []) (mem' := eR (x, y, 0)) rfl ?_
  refine Z_vret 9 rfl rfl ⟨Nat.le_refl _, Nat.le_refl _⟩ ?_
  exact ⟨rfl, rfl⟩
def kp (r : RR) (a b : Int) : RR := if 0 < b then ((if r.1 < (-a) / b + 1 then (-a) / b + 1 else r.1), r.2) else if b < 0 then (r.1, (if -((-a) / (-b)) - 1 < r.2.1 then -((-a) / (-b)) - 1 else r.2.1), r.2.2) else if a ≤ 0 then (r.1, r.2.1, 1) else r
theorem kp_in (r : RR) (a b x : Int) (hr : r.2.2 = 0 ∨ r.2.2 = 1) : InR (kp r a b) x ↔ InR r x ∧ 0 < a + b * x := by
  unfold InR kp
  by_cases h1 : 0 < b
  · have e : (-a) / b + 1 ≤ x ↔ 0 < a + b * x := by
      have h := Int.le_ediv_iff_mul_le h1 (a := x) (b := -a)
      rw [Int.mul_comm] at h
      omega
    rw [if_pos h1]
    show r.2.2 = 0 ∧ (if r.1 < (-a) / b + 1 then (-a) / b + 1 else r.1) ≤ x ∧ x ≤ r.2.1 ↔ _
    split <;> omega
  · rw [if_neg h1]
    by_cases h2 : b < 0
    · have e : x ≤ -((-a) / (-b)) - 1 ↔ 0 < a + b * x := by
        have h := Int.le_ediv_iff_mul_le (show 0 < -b by omega) (a := -x) (b := -a)
        rw [Int.neg_mul_neg, Int.mul_comm] at h
        omega
      rw [if_pos h2]
      show r.2.2 = 0 ∧ r.1 ≤ x ∧ x ≤ (if -((-a) / (-b)) - 1 < r.2.1 then -((-a) / (-b)) - 1 else r.2.1) ↔ _
      split <;> omega
    · have e : b = 0 := by omega
      subst e
      rw [if_neg h2, Int.zero_mul]
      split
      · show (1 : Int) = 0 ∧ _ ↔ _
        omega
      · omega
theorem ed_ab {x y A : Int} (h : -A ≤ x ∧ x ≤ A) (hy : 0 < y) : -A ≤ x / y ∧ x / y ≤ A := by
  rcases Int.le_total 0 x with h0 | h0
  · have h1 := Int.ediv_nonneg h0 (show 0 ≤ y by omega)
    have h2 := Int.ediv_le_self y h0
    omega
  · have h1 : x / y ≤ 0 / y := Int.ediv_le_ediv hy h0
    rw [Int.zero_ediv] at h1
    have h2 : x ≤ x / y := by
      refine Int.le_ediv_of_mul_le hy ?_
      have := Int.mul_le_mul_of_nonpos_left h0 (show 1 ≤ y by omega)
      omega
    omega
theorem kp_bd {r : RR} {a b : Int} (hr : RB r) (ha : -9223372036854775807 < a ∧ a < 9223372036854775807) (hb : inL b ∧ b ≠ -9223372036854775808) : RB (kp r a b) := by
  unfold RB kp at *
  by_cases h1 : 0 < b
  · have h2 := ed_ab (x := -a) (A := 9223372036854775806) (by omega) h1
    rw [if_pos h1]
    show inL (if r.1 < (-a) / b + 1 then (-a) / b + 1 else r.1) ∧ inL r.2.1 ∧ _
    refine ⟨?_, hr.2⟩
    split <;> omega
  · rw [if_neg h1]
    by_cases h2 : b < 0
    · have h3 := ed_ab (x := -a) (y := -b) (A := 9223372036854775806) (by omega) (by omega)
      rw [if_pos h2]
      refine ⟨hr.1, ?_, hr.2.2⟩
      show inL (if -((-a) / (-b)) - 1 < r.2.1 then -((-a) / (-b)) - 1 else r.2.1)
      split <;> omega
    · rw [if_neg h2]
      split
      · exact ⟨hr.1, hr.2.1, Or.inr rfl⟩
      · exact hr
theorem kp_p {r : RR} {a b : Int} (h : 0 < b) : kp r a b = ((if r.1 < (-a) / b + 1 then (-a) / b + 1 else r.1), r.2.1, r.2.2) := by unfold kp; rw [if_pos h]
theorem kp_m {r : RR} {a b : Int} (h : b < 0) : kp r a b = (r.1, (if -((-a) / (-b)) - 1 < r.2.1 then -((-a) / (-b)) - 1 else r.2.1), r.2.2) := by unfold kp; rw [if_neg (by omega), if_pos h]
theorem kp_z {r : RR} {a b : Int} (h : b = 0) (ha : a ≤ 0) : kp r a b = (r.1, r.2.1, 1) := by unfold kp; rw [if_neg (by omega), if_neg (by omega), if_pos ha]
theorem kp_n {r : RR} {a b : Int} (h : b = 0) (ha : ¬ a ≤ 0) : kp r a b = r := by unfold kp; rw [if_neg (by omega), if_neg (by omega), if_neg ha]
theorem c_R_keep (l : Launch) (r : RR) (a b : Int) (hr : RB r) (ha : -9223372036854775807 < a ∧ a < 9223372036854775807) (hb : inL b ∧ b ≠ -9223372036854775808) : Con l M_R_keepAboveZero R_R_keepAboveZero 0 0 false [.ref 0, .long (lI a), .long (lI b)] (eR r) (zAv (fun m => m = eR (kp r a b))) := by
  have hk := kp_bd hr ha hb
  unfold RB at hr hk
  refine Con.of_Z (by decide) D_R_keepAboveZero (Nat.le_of_ble_eq_true rfl) ?_
  refine Z_lload_n 0 rfl rfl rfl ?_
  refine Z_lconst 1 rfl ?_
  refine Z_lc_le 2 rfl rfl (tgt := 28) rfl (by omega) (by omega) (fun c2 => ?_) (fun c2 => ?_)
  · refine Z_lload_n 16 rfl rfl rfl ?_
    refine Z_lconst 17 rfl ?_
    refine Z_lc_ge 18 rfl rfl (tgt := 58) rfl (by omega) (by omega) (fun c30 => ?_) (fun c30 => ?_)
    · refine Z_lload_n 34 rfl rfl rfl ?_
      refine Z_lconst 35 rfl ?_
      refine Z_lc_gt 36 rfl rfl (tgt := 69) rfl (by omega) (by omega) (fun c60 => ?_) (fun c60 => ?_)
      · refine Z_vret 41 rfl rfl ⟨Nat.le_refl _, Nat.le_refl _⟩ ?_
        first | (rw [kp_p (by omega)]; exact ⟨rfl, rfl⟩) | (rw [kp_m (by omega)]; exact ⟨rfl, rfl⟩) | (rw [kp_z (by omega) (by omega)]; exact ⟨rfl, rfl⟩) | (rw [kp_n (by omega) (by omega)]; exact ⟨rfl, rfl⟩)
      · refine Z_aload_n 38 rfl rfl rfl ?_
        refine Z_iconst 39 rfl ?_
        refine Z_put 40 rfl f_R_18 rfl (Nat.le_of_ble_eq_true rfl) (fun _ => ⟨rfl, rfl⟩) (fs' := []) (mem' := eR (r.1, r.2.1, 1)) rfl ?_
        refine Z_vret 41 rfl rfl ⟨Nat.le_refl _, Nat.le_refl _⟩ ?_
        first | (rw [kp_p (by omega)]; exact ⟨rfl, rfl⟩) | (rw [kp_m (by omega)]; exact ⟨rfl, rfl⟩) | (rw [kp_z (by omega) (by omega)]; exact ⟨rfl, rfl⟩) | (rw [kp_n (by omega) (by omega)]; exact ⟨rfl, rfl⟩)
    · refine Z_aload_n 20 rfl rfl rfl ?_
      refine Z_aload_n 21 rfl rfl rfl ?_
      refine Z_get 22 rfl f_R_15 rfl rfl ?_
      refine Z_lload_n 23 rfl rfl rfl ?_
      refine Z_lneg 24 rfl ?_
      refine Z_lload_n 25 rfl rfl rfl ?_
      refine Z_lneg 26 rfl ?_
      refine Z_callSlp (M' := M_J9_floorDiv) 27 [] rfl l_R_22 C_J9_floorDiv (c_floorDiv l (-a) (-b) (by omega) (by omega) (by omega)) ⟨List.nodup_nil, zEL.n⟩ rfl rfl rfl (Nat.le_of_ble_eq_true rfl) ⟨rfl, rfl, Nat.le_of_ble_eq_true rfl, Nat.le_of_ble_eq_true rfl⟩ ⟨Nat.zero_le _, Nat.zero_le _⟩ ?_
      refine Z_lneg 28 rfl ?_
      refine Z_lconst 29 rfl ?_
      refine Z_lsub 30 rfl ?_
      refine Z_minL 31 rfl l_R_31 b_st_minL b_ini_Math b_cd_minL (hr.2.1) (by have h2 := ed_ab (x := -a) (y := -b) (A := 9223372036854775806) (by omega) (by omega); omega) (Nat.le_of_ble_eq_true rfl) ⟨Nat.le_of_ble_eq_true rfl, Nat.zero_le _, Nat.zero_le _⟩ ?_
      refine Z_put 32 rfl f_R_15 rfl (Nat.le_of_ble_eq_true rfl) (fun _ => ⟨rfl, rfl⟩) (fs' := []) (mem' := eR (r.1, (if -((-a) / (-b)) - 1 < r.2.1 then -((-a) / (-b)) - 1 else r.2.1), r.2.2)) rfl ?_
      refine Z_goto 33 rfl (tgt := 69) rfl ?_
      refine Z_vret 41 rfl rfl ⟨Nat.le_refl _, Nat.le_refl _⟩ ?_
      first | (rw [kp_p (by omega)]; exact ⟨rfl, rfl⟩) | (rw [kp_m (by omega)]; exact ⟨rfl, rfl⟩) | (rw [kp_z (by omega) (by omega)]; exact ⟨rfl, rfl⟩) | (rw [kp_n (by omega) (by omega)]; exact ⟨rfl, rfl⟩)
  · refine Z_aload_n 4 rfl rfl rfl ?_
    refine Z_aload_n 5 rfl rfl rfl ?_
    refine Z_get 6 rfl f_R_9 rfl rfl ?_
    refine Z_lload_n 7 rfl rfl rfl ?_
    refine Z_lneg 8 rfl ?_
    refine Z_lload_n 9 rfl rfl rfl ?_
    refine Z_callSlp (M' := M_J9_floorDiv) 10 [] rfl l_R_22 C_J9_floorDiv (c_floorDiv l (-a) b (by omega) (by omega) (by omega)) ⟨List.nodup_nil, zEL.n⟩ rfl rfl rfl (Nat.le_of_ble_eq_true rfl) ⟨rfl, rfl, Nat.le_of_ble_eq_true rfl, Nat.le_of_ble_eq_true rfl⟩ ⟨Nat.zero_le _, Nat.zero_le _⟩ ?_
    refine Z_lconst 11 rfl ?_
    refine Z_ladd 12 rfl ?_
    refine Z_maxL 13 rfl l_R_28 b_st_maxL b_ini_Math b_cd_maxL (hr.1) (by have h2 := ed_ab (x := -a) (A := 9223372036854775806) (y := b) (by omega) (by omega); omega) (Nat.le_of_ble_eq_true rfl) ⟨Nat.le_of_ble_eq_true rfl, Nat.zero_le _, Nat.zero_le _⟩ ?_
    refine Z_put 14 rfl f_R_9 rfl (Nat.le_of_ble_eq_true rfl) (fun _ => ⟨rfl, rfl⟩) (fs' := []) (mem' := eR ((if r.1 < (-a) / b + 1 then (-a) / b + 1 else r.1), r.2.1, r.2.2)) rfl ?_
    refine Z_goto 15 rfl (tgt := 69) rfl ?_
    refine Z_vret 41 rfl rfl ⟨Nat.le_refl _, Nat.le_refl _⟩ ?_
    first | (rw [kp_p (by omega)]; exact ⟨rfl, rfl⟩) | (rw [kp_m (by omega)]; exact ⟨rfl, rfl⟩) | (rw [kp_z (by omega) (by omega)]; exact ⟨rfl, rfl⟩) | (rw [kp_n (by omega) (by omega)]; exact ⟨rfl, rfl⟩)
theorem c_R_holds (l : Launch) (r : RR) (x : Int) (hr : RB r) (hx : inL x) : Con l M_R_holds R_R_holds 0 0 false [.ref 0, .long (lI x)] (eR r) (zAb (InR r x) (fun m => m = eR r)) := by
  unfold RB at hr
  refine Con.of_Z (by decide) D_R_holds (Nat.le_of_ble_eq_true rfl) ?_
  refine Z_aload_n 0 rfl rfl rfl ?_
  refine Z_get 1 rfl f_R_18 rfl rfl ?_
  refine Z_if_ne 2 rfl (tgt := 29) rfl (by omega) (fun c4 => ?_) (fun c4 => ?_)
  · refine Z_iconst 15 rfl ?_
    refine Z_zret 16 rfl rfl rfl ⟨Nat.le_refl _, Nat.le_refl _⟩ ?_
    first | exact ⟨bT (by unfold InR; omega), rfl⟩ | exact ⟨bF (by unfold InR; omega), rfl⟩
  · refine Z_lload_n 3 rfl rfl rfl ?_
    refine Z_aload_n 4 rfl rfl rfl ?_
    refine Z_get 5 rfl f_R_9 rfl rfl ?_
    refine Z_lc_lt 6 rfl rfl (tgt := 29) rfl (by omega) (by omega) (fun c12 => ?_) (fun c12 => ?_)
    · refine Z_iconst 15 rfl ?_
      refine Z_zret 16 rfl rfl rfl ⟨Nat.le_refl _, Nat.le_refl _⟩ ?_
      first | exact ⟨bT (by unfold InR; omega), rfl⟩ | exact ⟨bF (by unfold InR; omega), rfl⟩
    · refine Z_lload_n 8 rfl rfl rfl ?_
      refine Z_aload_n 9 rfl rfl rfl ?_
      refine Z_get 10 rfl f_R_15 rfl rfl ?_
      refine Z_lc_gt 11 rfl rfl (tgt := 29) rfl (by omega) (by omega) (fun c21 => ?_) (fun c21 => ?_)
      · refine Z_iconst 15 rfl ?_
        refine Z_zret 16 rfl rfl rfl ⟨Nat.le_refl _, Nat.le_refl _⟩ ?_
        first | exact ⟨bT (by unfold InR; omega), rfl⟩ | exact ⟨bF (by unfold InR; omega), rfl⟩
      · refine Z_iconst 13 rfl ?_
        refine Z_goto 14 rfl (tgt := 30) rfl ?_
        refine Z_zret 16 rfl rfl rfl ⟨Nat.le_refl _, Nat.le_refl _⟩ ?_
        first | exact ⟨bT (by unfold InR; omega), rfl⟩ | exact ⟨bF (by unfold InR; omega), rfl⟩
noncomputable def lst (r : RR) : Int := @ite Int (InR r r.1) (Classical.propDecidable _) r.1 (-5)
theorem c_R_leastOne (l : Launch) (r : RR) (hr : RB r) : Con l M_R_leastOne R_R_leastOne 0 0 false [.ref 0] (eR r) (zAi (lst r) (fun m => m = eR r)) := by
  have hr2 := hr
  unfold RB at hr2
  refine Con.of_Z (by decide) D_R_leastOne (Nat.le_of_ble_eq_true rfl) ?_
  refine Z_aload_n 0 rfl rfl rfl ?_
  refine Z_aload_n 1 rfl rfl rfl ?_
  refine Z_get 2 rfl f_R_9 rfl rfl ?_
  refine Z_callVbp (M' := M_R_holds) 3 [0] rfl l_R_34 C_R_holds (c_R_holds l r r.1 hr (by omega)) ⟨by decide, (zEL.c (Or.inl rfl) zEL.n)⟩ (Or.inl ⟨_, _, _, _, rfl, rfl⟩) rfl rfl rfl (Nat.le_of_ble_eq_true rfl) ⟨rfl, rfl, Nat.le_of_ble_eq_true rfl, Nat.le_of_ble_eq_true rfl⟩ ⟨Nat.zero_le _, Nat.zero_le _⟩ ?_
  refine Z_ifb_eq 4 rfl (tgt := 19) rfl (fun c8 => ?_) (fun c8 => ?_)
  · refine Z_bipush 9 rfl rfl ?_
    refine Z_iret 10 rfl rfl ⟨Nat.le_refl _, Nat.le_refl _⟩ ?_
    exact ⟨by unfold lst; first | rw [if_pos c8] | rw [if_neg c8], rfl⟩
  · refine Z_aload_n 5 rfl rfl rfl ?_
    refine Z_get 6 rfl f_R_9 rfl rfl ?_
    refine Z_l2i 7 rfl ?_
    refine Z_goto 8 rfl (tgt := 21) rfl ?_
    refine Z_iret 10 rfl rfl ⟨Nat.le_refl _, Nat.le_refl _⟩ ?_
    exact ⟨by unfold lst; first | rw [if_pos c8] | rw [if_neg c8], rfl⟩
