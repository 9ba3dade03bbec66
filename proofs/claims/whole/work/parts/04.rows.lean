/-! whole numbers as Java's ints and longs; the rows of Z, one an instruction, in whole numbers -/
def iI (x : Int) : Int32 := Int32.ofInt x
def lI (x : Int) : Int64 := Int64.ofInt x
abbrev inI (x : Int) : Prop := -2147483648 ≤ x ∧ x ≤ 2147483647
abbrev inL (x : Int) : Prop := -9223372036854775808 ≤ x ∧ x ≤ 9223372036854775807
theorem iI_t {x : Int} (h : inI x) : (iI x).toInt = x := by
  unfold iI; rw [Int32.toInt_ofInt]; exact Int.bmod_eq_of_le (by simp; omega) (by simp; omega)
theorem lI_t {x : Int} (h : inL x) : (lI x).toInt = x := by
  unfold lI; rw [Int64.toInt_ofInt]; exact Int.bmod_eq_of_le (by simp; omega) (by simp; omega)
theorem iI_o (x : Int32) : iI x.toInt = x := by unfold iI; exact Int32.ofInt_toInt x
theorem lI_o (x : Int64) : lI x.toInt = x := by unfold lI; exact Int64.ofInt_toInt x
theorem iI_in (x : Int32) : inI x.toInt := by
  have h1 := Int32.le_toInt x
  have h2 := Int32.toInt_lt x
  constructor <;> omega
theorem lI_in (x : Int64) : inL x.toInt := by
  have h1 := Int64.le_toInt x
  have h2 := Int64.toInt_lt x
  constructor <;> omega
theorem iI_add (a b : Int) : iI a + iI b = iI (a + b) := by unfold iI; rw [Int32.ofInt_add]
theorem iI_sub (a b : Int) : iI a - iI b = iI (a - b) := by unfold iI; rw [Int32.ofInt_sub]
theorem iI_mul (a b : Int) : iI a * iI b = iI (a * b) := by unfold iI; rw [Int32.ofInt_mul]
theorem iI_neg (a : Int) : -iI a = iI (-a) := by unfold iI; rw [Int32.ofInt_neg]
theorem lI_add (a b : Int) : lI a + lI b = lI (a + b) := by unfold lI; rw [Int64.ofInt_add]
theorem lI_sub (a b : Int) : lI a - lI b = lI (a - b) := by unfold lI; rw [Int64.ofInt_sub]
theorem lI_mul (a b : Int) : lI a * lI b = lI (a * b) := by unfold lI; rw [Int64.ofInt_mul]
theorem lI_neg (a : Int) : -lI a = lI (-a) := by unfold lI; rw [Int64.ofInt_neg]
theorem iI_lt {a b : Int} (ha : inI a) (hb : inI b) : iI a < iI b ↔ a < b := by rw [Int32.lt_iff_toInt_lt, iI_t ha, iI_t hb]
theorem iI_le {a b : Int} (ha : inI a) (hb : inI b) : iI a ≤ iI b ↔ a ≤ b := by rw [Int32.le_iff_toInt_le, iI_t ha, iI_t hb]
theorem iI_eq {a b : Int} (ha : inI a) (hb : inI b) : iI a = iI b ↔ a = b := by rw [← Int32.toInt_inj, iI_t ha, iI_t hb]
theorem lI_lt {a b : Int} (ha : inL a) (hb : inL b) : lI a < lI b ↔ a < b := by rw [Int64.lt_iff_toInt_lt, lI_t ha, lI_t hb]
theorem lI_le {a b : Int} (ha : inL a) (hb : inL b) : lI a ≤ lI b ↔ a ≤ b := by rw [Int64.le_iff_toInt_le, lI_t ha, lI_t hb]
theorem lI_eq {a b : Int} (ha : inL a) (hb : inL b) : lI a = lI b ↔ a = b := by rw [← Int64.toInt_inj, lI_t ha, lI_t hb]
theorem lI_0 : lI 0 = 0 := rfl
theorem iI_0 : iI 0 = 0 := rfl
theorem iI_l {a : Int} (h : inI a) : (iI a).toInt64 = lI a := by
  rw [← Int64.toInt_inj, Int32.toInt_toInt64, iI_t h, lI_t (by omega)]
theorem lI_i (a : Int) : (lI a).toInt32 = iI a := by
  unfold lI iI
  rw [← Int32.toInt_inj, Int64.toInt_toInt32, Int64.toInt_ofInt, Int32.toInt_ofInt]
  exact Int.bmod_bmod_of_dvd (by decide)
theorem lI_div {a b : Int} (ha : inL a) (hb : inL b) (h0 : 0 < b) : lI a / lI b = lI (a.tdiv b) := by
  rw [← Int64.toInt_inj, Int64.toInt_div, lI_t ha, lI_t hb]
  have h1 : inL (a.tdiv b) := by
    have h2 := Int.natAbs_tdiv_le_natAbs a b
    rcases Int.le_total 0 a with h | h
    · have h3 := Int.tdiv_nonneg h (show 0 ≤ b by omega)
      omega
    · have h3 := Int.tdiv_nonneg (show 0 ≤ -a by omega) (show 0 ≤ b by omega)
      rw [Int.neg_tdiv] at h3
      omega
  rw [lI_t h1]
  exact Int.bmod_eq_of_le (by simp; omega) (by simp; omega)
theorem lI_rem {a b : Int} (ha : inL a) (hb : inL b) (h0 : 0 < b) : lI a - lI a / lI b * lI b = lI (a.tmod b) := by
  rw [lI_div ha hb h0, lI_mul, lI_sub, Int.tmod_def, Int.mul_comm]
theorem iI_div {a b : Int} (ha : inI a) (hb : inI b) (h0 : 0 < b) : iI a / iI b = iI (a.tdiv b) := by
  rw [← Int32.toInt_inj, Int32.toInt_div, iI_t ha, iI_t hb]
  have h1 : inI (a.tdiv b) := by
    have h2 := Int.natAbs_tdiv_le_natAbs a b
    rcases Int.le_total 0 a with h | h
    · have h3 := Int.tdiv_nonneg h (show 0 ≤ b by omega)
      omega
    · have h3 := Int.tdiv_nonneg (show 0 ≤ -a by omega) (show 0 ≤ b by omega)
      rw [Int.neg_tdiv] at h3
      omega
  rw [iI_t h1]
  exact Int.bmod_eq_of_le (by simp; omega) (by simp; omega)
theorem iI_rem {a b : Int} (ha : inI a) (hb : inI b) (h0 : 0 < b) : iI a - iI a / iI b * iI b = iI (a.tmod b) := by
  rw [iI_div ha hb h0, iI_mul, iI_sub, Int.tmod_def, Int.mul_comm]
theorem iI_ix {i : Int} {n : Nat} (h : 0 ≤ i ∧ i < n) (hn : n < 2147483648) : vp_in (iI i) n ∧ (iI i).toNatClampNeg = i.toNat := by
  have h1 : inI i := by omega
  have h2 := iI_t h1
  refine ⟨vp_in_iff.mpr (by rw [h2]; omega), ?_⟩
  show (iI i).toInt.toNat = i.toNat
  rw [h2]
/-- a row of ints, of longs, in whole numbers; a read-only one -/
def aI (n : Nat) (F : Int → Int) : zE := zI n (fun j => iI (F (j : Int)))
def aL (n : Nat) (F : Int → Int) : zE := zL n (fun j => lI (F (j : Int)))
def aR (n : Nat) (F : Int → Int) : zE := zR n (fun j => iI (F (j : Int)))
def aB (n : Nat) (F : Int → Int) : zE := zRb n (fun j => iI (F (j : Int)))
def uI (F : Int → Int) (i v : Int) : Int → Int := fun j => if j = i then v else F j
theorem uI_s (F : Int → Int) (i v : Int) : uI F i v i = v := by simp [uI]
theorem uI_n (F : Int → Int) {i j : Int} (v : Int) (h : j ≠ i) : uI F i v j = F j := by simp [uI, h]
section ZR
variable {X : zX} {kc ks : Nat} {mem : List zE} {pc n : Nat} {lv : List (Nat × Value)} {st : List Value}
theorem zI_dec {X : zX} (hd : zDec X.M) {k pc len n : Nat} {i : Instr} (h : X.I[k]? = some (pc, i, len, n)) : decode X.M.2.1 pc = .ok (i, len) ∧ pc + len = n := hd (pc, i, len, n) (List.mem_of_getElem? h)
theorem zlv_at {ad : Nat → Nat} {ls : Array Slot} {nL i : Nat} {v : Value} (h : lv_has ls nL (lv.map (zq ad))) (hi : (i, v) ∈ lv) : ls[i]? = some (.val (zv ad v)) := h.2.2 (i, zv ad v) (List.mem_map.mpr ⟨(i, v), hi, rfl⟩)
def zlk : List (Nat × Value) → Nat → Option Value
  | [], _ => none
  | q :: l, i => if q.1 = i then some q.2 else zlk l i
theorem zlk_mem : ∀ {lv : List (Nat × Value)} {i : Nat} {v : Value}, zlk lv i = some v → (i, v) ∈ lv := by
  intro lv
  induction lv with
  | nil => intro i v h; cases h
  | cons q l ih =>
    intro i v h
    unfold zlk at h
    split at h
    · rename_i hq
      cases h
      subst hq
      exact List.mem_cons_self
    · exact List.mem_cons_of_mem _ (ih h)
/-- a store of one slot, of two -/
def zst1 (lv : List (Nat × Value)) (i : Nat) (v : Value) : List (Nat × Value) := (i, v) :: lv.filter (fun q => !(q.1 == i) && !(q.1 + 1 == i && q.2.category == 2))
def zst2 (lv : List (Nat × Value)) (i : Nat) (v : Value) : List (Nat × Value) := (i, v) :: lv.filter (fun q => !(q.1 == i) && (!(q.1 == i + 1) && !(q.1 + 1 == i && q.2.category == 2)))
theorem zst1_map (ad : Nat → Nat) (i : Nat) (v : Value) : (i, zv ad v) :: (lv.map (zq ad)).filter (fun q => !(q.1 == i) && !(q.1 + 1 == i && q.2.category == 2)) = (zst1 lv i v).map (zq ad) := by
  simp only [zst1, List.map_cons, zq, List.filter_map]
  congr 2
  apply List.filter_congr
  intro q _
  simp [zq, zv_cat]
theorem zst2_map (ad : Nat → Nat) (i : Nat) (v : Value) : (i, zv ad v) :: (lv.map (zq ad)).filter (fun q => !(q.1 == i) && (!(q.1 == i + 1) && !(q.1 + 1 == i && q.2.category == 2))) = (zst2 lv i v).map (zq ad) := by
  simp only [zst2, List.map_cons, zq, List.filter_map]
  congr 2
  apply List.filter_congr
  intro q _
  simp [zq, zv_cat]
/-- fewer locals; another name for what lies on top; more room; a weaker end -/
theorem Z_lv {lv' : List (Nat × Value)} (h : ∀ q ∈ lv', q ∈ lv) (kk : Z X kc ks mem pc lv' st) : Z X kc ks mem pc lv st := by
  intro D cI cL ad ad0 n0 A p e s m args below meth c H locs ls hd hB hWd hag hn hA hS hl
  refine kk D cI cL ad ad0 n0 A p e s m args below meth c H locs ls hd hB hWd hag hn hA hS ⟨hl.1, hl.2.1, fun q hq => ?_⟩
  obtain ⟨q0, h1, h2⟩ := List.mem_map.mp hq
  exact hl.2.2 q (List.mem_map.mpr ⟨q0, h q0 h1, h2⟩)
/-- the same locals in another order, or fewer: by their numbers -/
theorem Z_ls {lv' : List (Nat × Value)} (h : lv'.all (fun q => lv.any (fun r => r.1 == q.1)) = true) (h2 : ∀ q ∈ lv', zlk lv q.1 = some q.2) (kk : Z X kc ks mem pc lv' st) : Z X kc ks mem pc lv st :=
  Z_lv (fun q hq => by have := zlk_mem (h2 q hq); exact this) kk
theorem Z_ti {x y : Int32} (h : x = y) (kk : Z X kc ks mem pc lv (.int y :: st)) : Z X kc ks mem pc lv (.int x :: st) := by rw [h]; exact kk
theorem Z_tl {x y : Int64} (h : x = y) (kk : Z X kc ks mem pc lv (.long y :: st)) : Z X kc ks mem pc lv (.long x :: st) := by rw [h]; exact kk
theorem Z_ci {x y : Int} (h : x = y) (kk : Z X kc ks mem pc lv (.int (iI y) :: st)) : Z X kc ks mem pc lv (.int (iI x) :: st) := by rw [h]; exact kk
theorem Z_cl {x y : Int} (h : x = y) (kk : Z X kc ks mem pc lv (.long (lI y) :: st)) : Z X kc ks mem pc lv (.long (lI x) :: st) := by rw [h]; exact kk
theorem Z_mem {mem' : List zE} (h : mem = mem') (kk : Z X kc ks mem' pc lv st) : Z X kc ks mem pc lv st := by rw [h]; exact kk
theorem Z_room {kc' ks' : Nat} (h1 : kc ≤ kc') (h2 : ks ≤ ks') (kk : Z X kc' ks' mem pc lv st) : Z X kc ks mem pc lv st := by
  intro D cI cL ad ad0 n0 A p e s m args below meth c H locs ls hd hB hWd hag hn hA hS hl
  exact W.widen h1 h2 (kk D cI cL ad ad0 n0 A p e s m args below meth c H locs ls hd hB hWd hag hn hA hS hl)

theorem Z_iconst (k : Nat) {c : Int} (h : X.I[k]? = some (pc, .iconst c, 1, n))  (kk : Z X kc ks mem n lv (.int (iI c) :: st)) : Z X kc ks mem pc lv (st) := by
  intro D cI cL ad ad0 n0 A p e s m args below meth c H locs ls hd hB hWd hag hn hA hS hl
  obtain ⟨h1, rfl⟩ := zI_dec hd h
  exact lv_iconst hB.1 hB.2.1 h1 rfl (kk D cI cL ad ad0 n0 A p e s m args below meth c H locs ls hd hB hWd hag hn hA hS hl)

theorem Z_bipush (k : Nat) {c : Int} (h : X.I[k]? = some (pc, .bipush c, 2, n)) (hv : (Int8.ofInt c).toInt32 = iI c) (kk : Z X kc ks mem n lv (.int (iI c) :: st)) : Z X kc ks mem pc lv (st) := by
  intro D cI cL ad ad0 n0 A p e s m args below meth c H locs ls hd hB hWd hag hn hA hS hl
  obtain ⟨h1, rfl⟩ := zI_dec hd h
  exact lv_bipush hB.1 hB.2.1 h1 hv (kk D cI cL ad ad0 n0 A p e s m args below meth c H locs ls hd hB hWd hag hn hA hS hl)

theorem Z_sipush (k : Nat) {c : Int} (h : X.I[k]? = some (pc, .sipush c, 3, n)) (hv : (Int16.ofInt c).toInt32 = iI c) (kk : Z X kc ks mem n lv (.int (iI c) :: st)) : Z X kc ks mem pc lv (st) := by
  intro D cI cL ad ad0 n0 A p e s m args below meth c H locs ls hd hB hWd hag hn hA hS hl
  obtain ⟨h1, rfl⟩ := zI_dec hd h
  exact lv_sipush hB.1 hB.2.1 h1 hv (kk D cI cL ad ad0 n0 A p e s m args below meth c H locs ls hd hB hWd hag hn hA hS hl)

theorem Z_lconst (k : Nat) {c : Fin 2} (h : X.I[k]? = some (pc, .lconst c, 1, n))  (kk : Z X kc ks mem n lv (.long (lI (c : Nat)) :: st)) : Z X kc ks mem pc lv (st) := by
  intro D cI cL ad ad0 n0 A p e s m args below meth c H locs ls hd hB hWd hag hn hA hS hl
  obtain ⟨h1, rfl⟩ := zI_dec hd h
  exact lv_lconst hB.1 hB.2.1 h1 rfl (kk D cI cL ad ad0 n0 A p e s m args below meth c H locs ls hd hB hWd hag hn hA hS hl)

theorem Z_ldc (k : Nat) {idx : Nat} {v : Int32} {c : Int} (h : X.I[k]? = some (pc, .ldc idx, 2, n)) (hw : Cond.constant X.M.1.cls idx v ∈ zTB) (hv : v = iI c) (kk : Z X kc ks mem n lv (.int (iI c) :: st)) : Z X kc ks mem pc lv (st) := by
  intro D cI cL ad ad0 n0 A p e s m args below meth c H locs ls hd hB hWd hag hn hA hS hl
  obtain ⟨h1, rfl⟩ := zI_dec hd h
  subst hv
  exact lv_ldc hB.1 hB.2.1 hB.2.2.2.2.2.1 (hB.2.2.2.2.2.2.2.1 _ hw) h1 (kk D cI cL ad ad0 n0 A p e s m args below meth c H locs ls hd hB hWd hag hn hA hS hl)

theorem Z_ldc2 (k : Nat) {idx : Nat} {v : Int64} {c : Int} (h : X.I[k]? = some (pc, .ldc2_w idx, 3, n)) (hw : Cond.constantLong X.M.1.cls idx v ∈ zTB) (hv : v = lI c) (kk : Z X kc ks mem n lv (.long (lI c) :: st)) : Z X kc ks mem pc lv (st) := by
  intro D cI cL ad ad0 n0 A p e s m args below meth c H locs ls hd hB hWd hag hn hA hS hl
  obtain ⟨h1, rfl⟩ := zI_dec hd h
  subst hv
  exact lv_ldc2 hB.1 hB.2.1 hB.2.2.2.2.2.1 (hB.2.2.2.2.2.2.2.1 _ hw) h1 (kk D cI cL ad ad0 n0 A p e s m args below meth c H locs ls hd hB hWd hag hn hA hS hl)

theorem Z_iload_n (k : Nat) {j : Fin 4} {i : Nat} {x : Int32} (h : X.I[k]? = some (pc, .iload_n j, 1, n)) (hj : (j : Nat) = i) (hx : zlk lv i = some (.int x)) (kk : Z X kc ks mem n lv (.int x :: st)) : Z X kc ks mem pc lv (st) := by
  intro D cI cL ad ad0 n0 A p e s m args below meth c H locs ls hd hB hWd hag hn hA hS hl
  obtain ⟨h1, rfl⟩ := zI_dec hd h
  exact lv_iload_n hB.1 hB.2.1 h1 hj (zlv_at hl (zlk_mem hx)) (kk D cI cL ad ad0 n0 A p e s m args below meth c H locs ls hd hB hWd hag hn hA hS hl)

theorem Z_iload (k : Nat) {i : Nat} {x : Int32} (h : X.I[k]? = some (pc, .iload i, 2, n)) (hx : zlk lv i = some (.int x)) (kk : Z X kc ks mem n lv (.int x :: st)) : Z X kc ks mem pc lv (st) := by
  intro D cI cL ad ad0 n0 A p e s m args below meth c H locs ls hd hB hWd hag hn hA hS hl
  obtain ⟨h1, rfl⟩ := zI_dec hd h
  exact lv_iload hB.1 hB.2.1 h1 (zlv_at hl (zlk_mem hx)) (kk D cI cL ad ad0 n0 A p e s m args below meth c H locs ls hd hB hWd hag hn hA hS hl)

theorem Z_lload_n (k : Nat) {j : Fin 4} {i : Nat} {x : Int64} (h : X.I[k]? = some (pc, .lload_n j, 1, n)) (hj : (j : Nat) = i) (hx : zlk lv i = some (.long x)) (kk : Z X kc ks mem n lv (.long x :: st)) : Z X kc ks mem pc lv (st) := by
  intro D cI cL ad ad0 n0 A p e s m args below meth c H locs ls hd hB hWd hag hn hA hS hl
  obtain ⟨h1, rfl⟩ := zI_dec hd h
  exact lv_lload_n hB.1 hB.2.1 h1 hj (zlv_at hl (zlk_mem hx)) (kk D cI cL ad ad0 n0 A p e s m args below meth c H locs ls hd hB hWd hag hn hA hS hl)

theorem Z_lload (k : Nat) {i : Nat} {x : Int64} (h : X.I[k]? = some (pc, .lload i, 2, n)) (hx : zlk lv i = some (.long x)) (kk : Z X kc ks mem n lv (.long x :: st)) : Z X kc ks mem pc lv (st) := by
  intro D cI cL ad ad0 n0 A p e s m args below meth c H locs ls hd hB hWd hag hn hA hS hl
  obtain ⟨h1, rfl⟩ := zI_dec hd h
  exact lv_lload hB.1 hB.2.1 h1 (zlv_at hl (zlk_mem hx)) (kk D cI cL ad ad0 n0 A p e s m args below meth c H locs ls hd hB hWd hag hn hA hS hl)

theorem Z_aload_n (k : Nat) {j : Fin 4} {i : Nat} {x : Nat} (h : X.I[k]? = some (pc, .aload_n j, 1, n)) (hj : (j : Nat) = i) (hx : zlk lv i = some (.ref x)) (kk : Z X kc ks mem n lv (.ref x :: st)) : Z X kc ks mem pc lv (st) := by
  intro D cI cL ad ad0 n0 A p e s m args below meth c H locs ls hd hB hWd hag hn hA hS hl
  obtain ⟨h1, rfl⟩ := zI_dec hd h
  exact lv_aload_n hB.1 hB.2.1 h1 hj (zlv_at hl (zlk_mem hx)) (kk D cI cL ad ad0 n0 A p e s m args below meth c H locs ls hd hB hWd hag hn hA hS hl)

theorem Z_aload (k : Nat) {i : Nat} {x : Nat} (h : X.I[k]? = some (pc, .aload i, 2, n)) (hx : zlk lv i = some (.ref x)) (kk : Z X kc ks mem n lv (.ref x :: st)) : Z X kc ks mem pc lv (st) := by
  intro D cI cL ad ad0 n0 A p e s m args below meth c H locs ls hd hB hWd hag hn hA hS hl
  obtain ⟨h1, rfl⟩ := zI_dec hd h
  exact lv_aload hB.1 hB.2.1 h1 (zlv_at hl (zlk_mem hx)) (kk D cI cL ad ad0 n0 A p e s m args below meth c H locs ls hd hB hWd hag hn hA hS hl)

theorem Z_istore_n (k : Nat) {j : Fin 4} {i : Nat} {x : Int32} {lv' : List (Nat × Value)} (h : X.I[k]? = some (pc, .istore_n j, 1, n)) (hj : (j : Nat) = i) (hi : i < X.M.2.2.1) (hl' : zst1 lv i (.int x) = lv') (kk : Z X kc ks mem n lv' st) : Z X kc ks mem pc lv (.int x :: st) := by
  intro D cI cL ad ad0 n0 A p e s m args below meth c H locs ls hd hB hWd hag hn hA hS hl
  obtain ⟨h1, rfl⟩ := zI_dec hd h
  subst hl'
  exact lv_istore_n hB.1 hB.2.1 h1 hj hl hi (zst1_map ad i (.int x)) (fun ls' hl2 => kk D cI cL ad ad0 n0 A p e s m args below meth c H locs ls' hd hB hWd hag hn hA hS hl2)

theorem Z_istore (k : Nat)  {i : Nat} {x : Int32} {lv' : List (Nat × Value)} (h : X.I[k]? = some (pc, .istore i, 2, n))  (hi : i < X.M.2.2.1) (hl' : zst1 lv i (.int x) = lv') (kk : Z X kc ks mem n lv' st) : Z X kc ks mem pc lv (.int x :: st) := by
  intro D cI cL ad ad0 n0 A p e s m args below meth c H locs ls hd hB hWd hag hn hA hS hl
  obtain ⟨h1, rfl⟩ := zI_dec hd h
  subst hl'
  exact lv_istore hB.1 hB.2.1 h1  hl hi (zst1_map ad i (.int x)) (fun ls' hl2 => kk D cI cL ad ad0 n0 A p e s m args below meth c H locs ls' hd hB hWd hag hn hA hS hl2)

theorem Z_lstore_n (k : Nat) {j : Fin 4} {i : Nat} {x : Int64} {lv' : List (Nat × Value)} (h : X.I[k]? = some (pc, .lstore_n j, 1, n)) (hj : (j : Nat) = i) (hi : i + 1 < X.M.2.2.1) (hl' : zst2 lv i (.long x) = lv') (kk : Z X kc ks mem n lv' st) : Z X kc ks mem pc lv (.long x :: st) := by
  intro D cI cL ad ad0 n0 A p e s m args below meth c H locs ls hd hB hWd hag hn hA hS hl
  obtain ⟨h1, rfl⟩ := zI_dec hd h
  subst hl'
  exact lv_lstore_n hB.1 hB.2.1 h1 hj hl hi (zst2_map ad i (.long x)) (fun ls' hl2 => kk D cI cL ad ad0 n0 A p e s m args below meth c H locs ls' hd hB hWd hag hn hA hS hl2)

theorem Z_lstore (k : Nat)  {i : Nat} {x : Int64} {lv' : List (Nat × Value)} (h : X.I[k]? = some (pc, .lstore i, 2, n))  (hi : i + 1 < X.M.2.2.1) (hl' : zst2 lv i (.long x) = lv') (kk : Z X kc ks mem n lv' st) : Z X kc ks mem pc lv (.long x :: st) := by
  intro D cI cL ad ad0 n0 A p e s m args below meth c H locs ls hd hB hWd hag hn hA hS hl
  obtain ⟨h1, rfl⟩ := zI_dec hd h
  subst hl'
  exact lv_lstore hB.1 hB.2.1 h1  hl hi (zst2_map ad i (.long x)) (fun ls' hl2 => kk D cI cL ad ad0 n0 A p e s m args below meth c H locs ls' hd hB hWd hag hn hA hS hl2)

theorem Z_astore_n (k : Nat) {j : Fin 4} {i : Nat} {x : Nat} {lv' : List (Nat × Value)} (h : X.I[k]? = some (pc, .astore_n j, 1, n)) (hj : (j : Nat) = i) (hi : i < X.M.2.2.1) (hl' : zst1 lv i (.ref x) = lv') (kk : Z X kc ks mem n lv' st) : Z X kc ks mem pc lv (.ref x :: st) := by
  intro D cI cL ad ad0 n0 A p e s m args below meth c H locs ls hd hB hWd hag hn hA hS hl
  obtain ⟨h1, rfl⟩ := zI_dec hd h
  subst hl'
  exact lv_astore_n hB.1 hB.2.1 h1 hj hl hi (zst1_map ad i (.ref x)) (fun ls' hl2 => kk D cI cL ad ad0 n0 A p e s m args below meth c H locs ls' hd hB hWd hag hn hA hS hl2)

theorem Z_astore (k : Nat)  {i : Nat} {x : Nat} {lv' : List (Nat × Value)} (h : X.I[k]? = some (pc, .astore i, 2, n))  (hi : i < X.M.2.2.1) (hl' : zst1 lv i (.ref x) = lv') (kk : Z X kc ks mem n lv' st) : Z X kc ks mem pc lv (.ref x :: st) := by
  intro D cI cL ad ad0 n0 A p e s m args below meth c H locs ls hd hB hWd hag hn hA hS hl
  obtain ⟨h1, rfl⟩ := zI_dec hd h
  subst hl'
  exact lv_astore hB.1 hB.2.1 h1  hl hi (zst1_map ad i (.ref x)) (fun ls' hl2 => kk D cI cL ad ad0 n0 A p e s m args below meth c H locs ls' hd hB hWd hag hn hA hS hl2)

theorem Z_iinc (k : Nat) {i : Nat} {d : Int} {x : Int} {lv' : List (Nat × Value)} (h : X.I[k]? = some (pc, .iinc i d, 3, n)) (hx : zlk lv i = some (.int (iI x))) (hi : i < X.M.2.2.1) (hl' : zst1 lv i (.int (iI (x + d))) = lv') (kk : Z X kc ks mem n lv' st) : Z X kc ks mem pc lv st := by
  intro D cI cL ad ad0 n0 A p e s m args below meth c H locs ls hd hB hWd hag hn hA hS hl
  obtain ⟨h1, rfl⟩ := zI_dec hd h
  subst hl'
  obtain ⟨k', hk'⟩ := List.getElem?_of_mem (List.mem_map.mpr ⟨(i, Value.int (iI x)), zlk_mem hx, rfl⟩ : zq ad (i, Value.int (iI x)) ∈ lv.map (zq ad))
  exact lv_iinc hB.1 hB.2.1 h1 hl hk' (iI_add x d) hi (zst1_map ad i (.int (iI (x + d)))) (fun ls' hl2 => kk D cI cL ad ad0 n0 A p e s m args below meth c H locs ls' hd hB hWd hag hn hA hS hl2)

theorem Z_iadd (k : Nat) {x y : Int} (h : X.I[k]? = some (pc, .iadd, 1, n))  (kk : Z X kc ks mem n lv (.int (iI (x + y)) :: st)) : Z X kc ks mem pc lv (.int (iI y) :: .int (iI x) :: st) := by
  intro D cI cL ad ad0 n0 A p e s m args below meth c H locs ls hd hB hWd hag hn hA hS hl
  obtain ⟨h1, rfl⟩ := zI_dec hd h
  rw [← iI_add] at kk
  exact lv_iadd hB.1 hB.2.1 h1 (kk D cI cL ad ad0 n0 A p e s m args below meth c H locs ls hd hB hWd hag hn hA hS hl)

theorem Z_isub (k : Nat) {x y : Int} (h : X.I[k]? = some (pc, .isub, 1, n))  (kk : Z X kc ks mem n lv (.int (iI (x - y)) :: st)) : Z X kc ks mem pc lv (.int (iI y) :: .int (iI x) :: st) := by
  intro D cI cL ad ad0 n0 A p e s m args below meth c H locs ls hd hB hWd hag hn hA hS hl
  obtain ⟨h1, rfl⟩ := zI_dec hd h
  rw [← iI_sub] at kk
  exact lv_isub hB.1 hB.2.1 h1 (kk D cI cL ad ad0 n0 A p e s m args below meth c H locs ls hd hB hWd hag hn hA hS hl)

theorem Z_imul (k : Nat) {x y : Int} (h : X.I[k]? = some (pc, .imul, 1, n))  (kk : Z X kc ks mem n lv (.int (iI (x * y)) :: st)) : Z X kc ks mem pc lv (.int (iI y) :: .int (iI x) :: st) := by
  intro D cI cL ad ad0 n0 A p e s m args below meth c H locs ls hd hB hWd hag hn hA hS hl
  obtain ⟨h1, rfl⟩ := zI_dec hd h
  rw [← iI_mul] at kk
  exact lv_imul hB.1 hB.2.1 h1 (kk D cI cL ad ad0 n0 A p e s m args below meth c H locs ls hd hB hWd hag hn hA hS hl)

theorem Z_iand (k : Nat) {x y : Int32} (h : X.I[k]? = some (pc, .iand, 1, n))  (kk : Z X kc ks mem n lv (.int (x &&& y) :: st)) : Z X kc ks mem pc lv (.int y :: .int x :: st) := by
  intro D cI cL ad ad0 n0 A p e s m args below meth c H locs ls hd hB hWd hag hn hA hS hl
  obtain ⟨h1, rfl⟩ := zI_dec hd h
  exact lv_iand hB.1 hB.2.1 h1 (kk D cI cL ad ad0 n0 A p e s m args below meth c H locs ls hd hB hWd hag hn hA hS hl)

theorem Z_ior (k : Nat) {x y : Int32} (h : X.I[k]? = some (pc, .ior, 1, n))  (kk : Z X kc ks mem n lv (.int (x ||| y) :: st)) : Z X kc ks mem pc lv (.int y :: .int x :: st) := by
  intro D cI cL ad ad0 n0 A p e s m args below meth c H locs ls hd hB hWd hag hn hA hS hl
  obtain ⟨h1, rfl⟩ := zI_dec hd h
  exact lv_ior hB.1 hB.2.1 h1 (kk D cI cL ad ad0 n0 A p e s m args below meth c H locs ls hd hB hWd hag hn hA hS hl)

theorem Z_ixor (k : Nat) {x y : Int32} (h : X.I[k]? = some (pc, .ixor, 1, n))  (kk : Z X kc ks mem n lv (.int (x ^^^ y) :: st)) : Z X kc ks mem pc lv (.int y :: .int x :: st) := by
  intro D cI cL ad ad0 n0 A p e s m args below meth c H locs ls hd hB hWd hag hn hA hS hl
  obtain ⟨h1, rfl⟩ := zI_dec hd h
  exact lv_ixor hB.1 hB.2.1 h1 (kk D cI cL ad ad0 n0 A p e s m args below meth c H locs ls hd hB hWd hag hn hA hS hl)

theorem Z_ishl (k : Nat) {x y : Int32} (h : X.I[k]? = some (pc, .ishl, 1, n))  (kk : Z X kc ks mem n lv (.int (x <<< (y &&& 31)) :: st)) : Z X kc ks mem pc lv (.int y :: .int x :: st) := by
  intro D cI cL ad ad0 n0 A p e s m args below meth c H locs ls hd hB hWd hag hn hA hS hl
  obtain ⟨h1, rfl⟩ := zI_dec hd h
  exact lv_ishl hB.1 hB.2.1 h1 (kk D cI cL ad ad0 n0 A p e s m args below meth c H locs ls hd hB hWd hag hn hA hS hl)

theorem Z_ishr (k : Nat) {x y : Int32} (h : X.I[k]? = some (pc, .ishr, 1, n))  (kk : Z X kc ks mem n lv (.int (x >>> (y &&& 31)) :: st)) : Z X kc ks mem pc lv (.int y :: .int x :: st) := by
  intro D cI cL ad ad0 n0 A p e s m args below meth c H locs ls hd hB hWd hag hn hA hS hl
  obtain ⟨h1, rfl⟩ := zI_dec hd h
  exact lv_ishr hB.1 hB.2.1 h1 (kk D cI cL ad ad0 n0 A p e s m args below meth c H locs ls hd hB hWd hag hn hA hS hl)

theorem Z_iushr (k : Nat) {x y : Int32} (h : X.I[k]? = some (pc, .iushr, 1, n))  (kk : Z X kc ks mem n lv (.int ((x.toUInt32 >>> (y.toUInt32 &&& Int32.toUInt32 31)).toInt32) :: st)) : Z X kc ks mem pc lv (.int y :: .int x :: st) := by
  intro D cI cL ad ad0 n0 A p e s m args below meth c H locs ls hd hB hWd hag hn hA hS hl
  obtain ⟨h1, rfl⟩ := zI_dec hd h
  exact lv_iushr hB.1 hB.2.1 h1 rfl (kk D cI cL ad ad0 n0 A p e s m args below meth c H locs ls hd hB hWd hag hn hA hS hl)

theorem Z_lshl (k : Nat) {x : Int64} {y : Int32} (h : X.I[k]? = some (pc, .lshl, 1, n))  (kk : Z X kc ks mem n lv (.long (x <<< (y.toInt64 &&& 63)) :: st)) : Z X kc ks mem pc lv (.int y :: .long x :: st) := by
  intro D cI cL ad ad0 n0 A p e s m args below meth c H locs ls hd hB hWd hag hn hA hS hl
  obtain ⟨h1, rfl⟩ := zI_dec hd h
  exact lv_lshl hB.1 hB.2.1 h1 rfl (kk D cI cL ad ad0 n0 A p e s m args below meth c H locs ls hd hB hWd hag hn hA hS hl)

theorem Z_ladd (k : Nat) {x y : Int} (h : X.I[k]? = some (pc, .ladd, 1, n))  (kk : Z X kc ks mem n lv (.long (lI (x + y)) :: st)) : Z X kc ks mem pc lv (.long (lI y) :: .long (lI x) :: st) := by
  intro D cI cL ad ad0 n0 A p e s m args below meth c H locs ls hd hB hWd hag hn hA hS hl
  obtain ⟨h1, rfl⟩ := zI_dec hd h
  rw [← lI_add] at kk
  exact lv_ladd hB.1 hB.2.1 h1 (kk D cI cL ad ad0 n0 A p e s m args below meth c H locs ls hd hB hWd hag hn hA hS hl)

theorem Z_lsub (k : Nat) {x y : Int} (h : X.I[k]? = some (pc, .lsub, 1, n))  (kk : Z X kc ks mem n lv (.long (lI (x - y)) :: st)) : Z X kc ks mem pc lv (.long (lI y) :: .long (lI x) :: st) := by
  intro D cI cL ad ad0 n0 A p e s m args below meth c H locs ls hd hB hWd hag hn hA hS hl
  obtain ⟨h1, rfl⟩ := zI_dec hd h
  rw [← lI_sub] at kk
  exact lv_lsub hB.1 hB.2.1 h1 (kk D cI cL ad ad0 n0 A p e s m args below meth c H locs ls hd hB hWd hag hn hA hS hl)

theorem Z_lmul (k : Nat) {x y : Int} (h : X.I[k]? = some (pc, .lmul, 1, n))  (kk : Z X kc ks mem n lv (.long (lI (x * y)) :: st)) : Z X kc ks mem pc lv (.long (lI y) :: .long (lI x) :: st) := by
  intro D cI cL ad ad0 n0 A p e s m args below meth c H locs ls hd hB hWd hag hn hA hS hl
  obtain ⟨h1, rfl⟩ := zI_dec hd h
  rw [← lI_mul] at kk
  exact lv_lmul hB.1 hB.2.1 h1 (kk D cI cL ad ad0 n0 A p e s m args below meth c H locs ls hd hB hWd hag hn hA hS hl)

theorem Z_land (k : Nat) {x y : Int64} (h : X.I[k]? = some (pc, .land, 1, n))  (kk : Z X kc ks mem n lv (.long (x &&& y) :: st)) : Z X kc ks mem pc lv (.long y :: .long x :: st) := by
  intro D cI cL ad ad0 n0 A p e s m args below meth c H locs ls hd hB hWd hag hn hA hS hl
  obtain ⟨h1, rfl⟩ := zI_dec hd h
  exact lv_land hB.1 hB.2.1 h1 (kk D cI cL ad ad0 n0 A p e s m args below meth c H locs ls hd hB hWd hag hn hA hS hl)

theorem Z_lor (k : Nat) {x y : Int64} (h : X.I[k]? = some (pc, .lor, 1, n))  (kk : Z X kc ks mem n lv (.long (x ||| y) :: st)) : Z X kc ks mem pc lv (.long y :: .long x :: st) := by
  intro D cI cL ad ad0 n0 A p e s m args below meth c H locs ls hd hB hWd hag hn hA hS hl
  obtain ⟨h1, rfl⟩ := zI_dec hd h
  exact lv_lor hB.1 hB.2.1 h1 (kk D cI cL ad ad0 n0 A p e s m args below meth c H locs ls hd hB hWd hag hn hA hS hl)

theorem Z_lxor (k : Nat) {x y : Int64} (h : X.I[k]? = some (pc, .lxor, 1, n))  (kk : Z X kc ks mem n lv (.long (x ^^^ y) :: st)) : Z X kc ks mem pc lv (.long y :: .long x :: st) := by
  intro D cI cL ad ad0 n0 A p e s m args below meth c H locs ls hd hB hWd hag hn hA hS hl
  obtain ⟨h1, rfl⟩ := zI_dec hd h
  exact lv_lxor hB.1 hB.2.1 h1 (kk D cI cL ad ad0 n0 A p e s m args below meth c H locs ls hd hB hWd hag hn hA hS hl)

theorem Z_ineg (k : Nat) {x : Int} (h : X.I[k]? = some (pc, .ineg, 1, n))  (kk : Z X kc ks mem n lv (.int (iI (-x)) :: st)) : Z X kc ks mem pc lv (.int (iI x) :: st) := by
  intro D cI cL ad ad0 n0 A p e s m args below meth c H locs ls hd hB hWd hag hn hA hS hl
  obtain ⟨h1, rfl⟩ := zI_dec hd h
  rw [← iI_neg] at kk
  exact lv_ineg hB.1 hB.2.1 h1 (kk D cI cL ad ad0 n0 A p e s m args below meth c H locs ls hd hB hWd hag hn hA hS hl)

theorem Z_lneg (k : Nat) {x : Int} (h : X.I[k]? = some (pc, .lneg, 1, n))  (kk : Z X kc ks mem n lv (.long (lI (-x)) :: st)) : Z X kc ks mem pc lv (.long (lI x) :: st) := by
  intro D cI cL ad ad0 n0 A p e s m args below meth c H locs ls hd hB hWd hag hn hA hS hl
  obtain ⟨h1, rfl⟩ := zI_dec hd h
  rw [← lI_neg] at kk
  exact lv_lneg hB.1 hB.2.1 h1 (kk D cI cL ad ad0 n0 A p e s m args below meth c H locs ls hd hB hWd hag hn hA hS hl)

theorem Z_i2l (k : Nat) {x : Int} (h : X.I[k]? = some (pc, .i2l, 1, n)) (hx : inI x) (kk : Z X kc ks mem n lv (.long (lI x) :: st)) : Z X kc ks mem pc lv (.int (iI x) :: st) := by
  intro D cI cL ad ad0 n0 A p e s m args below meth c H locs ls hd hB hWd hag hn hA hS hl
  obtain ⟨h1, rfl⟩ := zI_dec hd h
  exact lv_i2l hB.1 hB.2.1 h1 (iI_l hx) (kk D cI cL ad ad0 n0 A p e s m args below meth c H locs ls hd hB hWd hag hn hA hS hl)

theorem Z_l2i (k : Nat) {x : Int} (h : X.I[k]? = some (pc, .l2i, 1, n))  (kk : Z X kc ks mem n lv (.int (iI x) :: st)) : Z X kc ks mem pc lv (.long (lI x) :: st) := by
  intro D cI cL ad ad0 n0 A p e s m args below meth c H locs ls hd hB hWd hag hn hA hS hl
  obtain ⟨h1, rfl⟩ := zI_dec hd h
  exact lv_l2i hB.1 hB.2.1 h1 (lI_i x) (kk D cI cL ad ad0 n0 A p e s m args below meth c H locs ls hd hB hWd hag hn hA hS hl)

theorem Z_ldiv (k : Nat) {x y : Int} (h : X.I[k]? = some (pc, .ldiv, 1, n)) (hx : inL x) (hy : inL y) (h0 : 0 < y) (kk : Z X kc ks mem n lv (.long (lI (x.tdiv y)) :: st)) : Z X kc ks mem pc lv (.long (lI y) :: .long (lI x) :: st) := by
  intro D cI cL ad ad0 n0 A p e s m args below meth c H locs ls hd hB hWd hag hn hA hS hl
  obtain ⟨h1, rfl⟩ := zI_dec hd h
  rw [← lI_div hx hy h0] at kk
  exact lv_ldiv hB.1 hB.2.1 h1 (fun z => by have := (lI_eq hy (by omega)).mp (z.trans lI_0.symm); omega) (kk D cI cL ad ad0 n0 A p e s m args below meth c H locs ls hd hB hWd hag hn hA hS hl)

theorem Z_lrem (k : Nat) {x y : Int} (h : X.I[k]? = some (pc, .lrem, 1, n)) (hx : inL x) (hy : inL y) (h0 : 0 < y) (kk : Z X kc ks mem n lv (.long (lI (x.tmod y)) :: st)) : Z X kc ks mem pc lv (.long (lI y) :: .long (lI x) :: st) := by
  intro D cI cL ad ad0 n0 A p e s m args below meth c H locs ls hd hB hWd hag hn hA hS hl
  obtain ⟨h1, rfl⟩ := zI_dec hd h
  rw [← lI_rem hx hy h0] at kk
  exact lv_lrem hB.1 hB.2.1 h1 (fun z => by have := (lI_eq hy (by omega)).mp (z.trans lI_0.symm); omega) (kk D cI cL ad ad0 n0 A p e s m args below meth c H locs ls hd hB hWd hag hn hA hS hl)

theorem Z_irem (k : Nat) {x y : Int} (h : X.I[k]? = some (pc, .irem, 1, n)) (hx : inI x) (hy : inI y) (h0 : 0 < y) (kk : Z X kc ks mem n lv (.int (iI (x.tmod y)) :: st)) : Z X kc ks mem pc lv (.int (iI y) :: .int (iI x) :: st) := by
  intro D cI cL ad ad0 n0 A p e s m args below meth c H locs ls hd hB hWd hag hn hA hS hl
  obtain ⟨h1, rfl⟩ := zI_dec hd h
  rw [← iI_rem hx hy h0] at kk
  exact lv_irem hB.1 hB.2.1 h1 (fun z => by have := (iI_eq hy (by omega)).mp (z.trans iI_0.symm); omega) (kk D cI cL ad ad0 n0 A p e s m args below meth c H locs ls hd hB hWd hag hn hA hS hl)

theorem Z_dup (k : Nat) {v : Value} (h : X.I[k]? = some (pc, .dup, 1, n)) (hc : v.category = 1) (kk : Z X kc ks mem n lv (v :: v :: st)) : Z X kc ks mem pc lv (v :: st) := by
  intro D cI cL ad ad0 n0 A p e s m args below meth c H locs ls hd hB hWd hag hn hA hS hl
  obtain ⟨h1, rfl⟩ := zI_dec hd h
  exact lv_dup hB.1 hB.2.1 h1 ((zv_cat ad v).trans hc) (kk D cI cL ad ad0 n0 A p e s m args below meth c H locs ls hd hB hWd hag hn hA hS hl)

theorem Z_pop (k : Nat) {v : Value} (h : X.I[k]? = some (pc, .pop, 1, n)) (hc : v.category = 1) (kk : Z X kc ks mem n lv (st)) : Z X kc ks mem pc lv (v :: st) := by
  intro D cI cL ad ad0 n0 A p e s m args below meth c H locs ls hd hB hWd hag hn hA hS hl
  obtain ⟨h1, rfl⟩ := zI_dec hd h
  exact lv_pop hB.1 hB.2.1 h1 ((zv_cat ad v).trans hc) (kk D cI cL ad ad0 n0 A p e s m args below meth c H locs ls hd hB hWd hag hn hA hS hl)

theorem Z_dup_x1 (k : Nat) {v w : Value} (h : X.I[k]? = some (pc, .dup_x1, 1, n)) (hc : v.category = 1) (hc2 : w.category = 1) (kk : Z X kc ks mem n lv (v :: w :: v :: st)) : Z X kc ks mem pc lv (v :: w :: st) := by
  intro D cI cL ad ad0 n0 A p e s m args below meth c H locs ls hd hB hWd hag hn hA hS hl
  obtain ⟨h1, rfl⟩ := zI_dec hd h
  exact lv_dup_x1 hB.1 hB.2.1 h1 ((zv_cat ad v).trans hc) ((zv_cat ad w).trans hc2) (kk D cI cL ad ad0 n0 A p e s m args below meth c H locs ls hd hB hWd hag hn hA hS hl)

theorem Z_dup2_2 (k : Nat) {v : Value} (h : X.I[k]? = some (pc, .dup2, 1, n)) (hc : v.category = 2) (kk : Z X kc ks mem n lv (v :: v :: st)) : Z X kc ks mem pc lv (v :: st) := by
  intro D cI cL ad ad0 n0 A p e s m args below meth c H locs ls hd hB hWd hag hn hA hS hl
  obtain ⟨h1, rfl⟩ := zI_dec hd h
  exact lv_dup2_2 hB.1 hB.2.1 h1 ((zv_cat ad v).trans hc) (kk D cI cL ad ad0 n0 A p e s m args below meth c H locs ls hd hB hWd hag hn hA hS hl)

theorem Z_dup2_11 (k : Nat) {v w : Value} (h : X.I[k]? = some (pc, .dup2, 1, n)) (hc : v.category = 1) (hc2 : w.category = 1) (kk : Z X kc ks mem n lv (v :: w :: v :: w :: st)) : Z X kc ks mem pc lv (v :: w :: st) := by
  intro D cI cL ad ad0 n0 A p e s m args below meth c H locs ls hd hB hWd hag hn hA hS hl
  obtain ⟨h1, rfl⟩ := zI_dec hd h
  exact lv_dup2_11 hB.1 hB.2.1 h1 ((zv_cat ad v).trans hc) ((zv_cat ad w).trans hc2) (kk D cI cL ad ad0 n0 A p e s m args below meth c H locs ls hd hB hWd hag hn hA hS hl)

theorem Z_goto (k : Nat) {off : Int} {tgt : Nat} (h : X.I[k]? = some (pc, .goto off, 3, n)) (ht : (pc : Int) + off = (tgt : Int)) (kk : Z X kc ks mem tgt lv st) : Z X kc ks mem pc lv st := by
  intro D cI cL ad ad0 n0 A p e s m args below meth c H locs ls hd hB hWd hag hn hA hS hl
  obtain ⟨h1, rfl⟩ := zI_dec hd h
  exact lv_goto hB.1 hB.2.1 h1 ht (kk D cI cL ad ad0 n0 A p e s m args below meth c H locs ls hd hB hWd hag hn hA hS hl)

theorem Z_icmp_eq (k : Nat) {x y off : Int} {tgt : Nat} (h : X.I[k]? = some (pc, .if_icmp .eq off, 3, n)) (ht : (pc : Int) + off = (tgt : Int)) (hx : inI x) (hy : inI y) (kt : x = y → Z X kc ks mem tgt lv st) (kf : x ≠ y → Z X kc ks mem n lv st) : Z X kc ks mem pc lv (.int (iI y) :: .int (iI x) :: st) := by
  intro D cI cL ad ad0 n0 A p e s m args below meth c H locs ls hd hB hWd hag hn hA hS hl
  obtain ⟨h1, rfl⟩ := zI_dec hd h
  exact lv_icmp_eq hB.1 hB.2.1 h1 ht (fun z => (kt ((iI_eq hx hy).mp z)) D cI cL ad ad0 n0 A p e s m args below meth c H locs ls hd hB hWd hag hn hA hS hl) (fun z => (kf (fun e0 => z ((iI_eq hx hy).mpr e0))) D cI cL ad ad0 n0 A p e s m args below meth c H locs ls hd hB hWd hag hn hA hS hl)

theorem Z_icmp_ne (k : Nat) {x y off : Int} {tgt : Nat} (h : X.I[k]? = some (pc, .if_icmp .ne off, 3, n)) (ht : (pc : Int) + off = (tgt : Int)) (hx : inI x) (hy : inI y) (kt : x ≠ y → Z X kc ks mem tgt lv st) (kf : x = y → Z X kc ks mem n lv st) : Z X kc ks mem pc lv (.int (iI y) :: .int (iI x) :: st) := by
  intro D cI cL ad ad0 n0 A p e s m args below meth c H locs ls hd hB hWd hag hn hA hS hl
  obtain ⟨h1, rfl⟩ := zI_dec hd h
  exact lv_icmp_ne hB.1 hB.2.1 h1 ht (fun z => (kt (fun e0 => z ((iI_eq hx hy).mpr e0))) D cI cL ad ad0 n0 A p e s m args below meth c H locs ls hd hB hWd hag hn hA hS hl) (fun z => (kf ((iI_eq hx hy).mp z)) D cI cL ad ad0 n0 A p e s m args below meth c H locs ls hd hB hWd hag hn hA hS hl)

theorem Z_icmp_lt (k : Nat) {x y off : Int} {tgt : Nat} (h : X.I[k]? = some (pc, .if_icmp .lt off, 3, n)) (ht : (pc : Int) + off = (tgt : Int)) (hx : inI x) (hy : inI y) (kt : x < y → Z X kc ks mem tgt lv st) (kf : ¬ x < y → Z X kc ks mem n lv st) : Z X kc ks mem pc lv (.int (iI y) :: .int (iI x) :: st) := by
  intro D cI cL ad ad0 n0 A p e s m args below meth c H locs ls hd hB hWd hag hn hA hS hl
  obtain ⟨h1, rfl⟩ := zI_dec hd h
  exact lv_icmp_lt hB.1 hB.2.1 h1 ht (fun z => (kt ((iI_lt hx hy).mp z)) D cI cL ad ad0 n0 A p e s m args below meth c H locs ls hd hB hWd hag hn hA hS hl) (fun z => (kf (fun e0 => z ((iI_lt hx hy).mpr e0))) D cI cL ad ad0 n0 A p e s m args below meth c H locs ls hd hB hWd hag hn hA hS hl)

theorem Z_icmp_ge (k : Nat) {x y off : Int} {tgt : Nat} (h : X.I[k]? = some (pc, .if_icmp .ge off, 3, n)) (ht : (pc : Int) + off = (tgt : Int)) (hx : inI x) (hy : inI y) (kt : y ≤ x → Z X kc ks mem tgt lv st) (kf : ¬ y ≤ x → Z X kc ks mem n lv st) : Z X kc ks mem pc lv (.int (iI y) :: .int (iI x) :: st) := by
  intro D cI cL ad ad0 n0 A p e s m args below meth c H locs ls hd hB hWd hag hn hA hS hl
  obtain ⟨h1, rfl⟩ := zI_dec hd h
  exact lv_icmp_ge hB.1 hB.2.1 h1 ht (fun z => (kt ((iI_le hy hx).mp z)) D cI cL ad ad0 n0 A p e s m args below meth c H locs ls hd hB hWd hag hn hA hS hl) (fun z => (kf (fun e0 => z ((iI_le hy hx).mpr e0))) D cI cL ad ad0 n0 A p e s m args below meth c H locs ls hd hB hWd hag hn hA hS hl)

theorem Z_icmp_gt (k : Nat) {x y off : Int} {tgt : Nat} (h : X.I[k]? = some (pc, .if_icmp .gt off, 3, n)) (ht : (pc : Int) + off = (tgt : Int)) (hx : inI x) (hy : inI y) (kt : y < x → Z X kc ks mem tgt lv st) (kf : ¬ y < x → Z X kc ks mem n lv st) : Z X kc ks mem pc lv (.int (iI y) :: .int (iI x) :: st) := by
  intro D cI cL ad ad0 n0 A p e s m args below meth c H locs ls hd hB hWd hag hn hA hS hl
  obtain ⟨h1, rfl⟩ := zI_dec hd h
  exact lv_icmp_gt hB.1 hB.2.1 h1 ht (fun z => (kt ((iI_lt hy hx).mp z)) D cI cL ad ad0 n0 A p e s m args below meth c H locs ls hd hB hWd hag hn hA hS hl) (fun z => (kf (fun e0 => z ((iI_lt hy hx).mpr e0))) D cI cL ad ad0 n0 A p e s m args below meth c H locs ls hd hB hWd hag hn hA hS hl)

theorem Z_icmp_le (k : Nat) {x y off : Int} {tgt : Nat} (h : X.I[k]? = some (pc, .if_icmp .le off, 3, n)) (ht : (pc : Int) + off = (tgt : Int)) (hx : inI x) (hy : inI y) (kt : x ≤ y → Z X kc ks mem tgt lv st) (kf : ¬ x ≤ y → Z X kc ks mem n lv st) : Z X kc ks mem pc lv (.int (iI y) :: .int (iI x) :: st) := by
  intro D cI cL ad ad0 n0 A p e s m args below meth c H locs ls hd hB hWd hag hn hA hS hl
  obtain ⟨h1, rfl⟩ := zI_dec hd h
  exact lv_icmp_le hB.1 hB.2.1 h1 ht (fun z => (kt ((iI_le hx hy).mp z)) D cI cL ad ad0 n0 A p e s m args below meth c H locs ls hd hB hWd hag hn hA hS hl) (fun z => (kf (fun e0 => z ((iI_le hx hy).mpr e0))) D cI cL ad ad0 n0 A p e s m args below meth c H locs ls hd hB hWd hag hn hA hS hl)

theorem Z_if_eq (k : Nat) {x off : Int} {tgt : Nat} (h : X.I[k]? = some (pc, .ifCond .eq off, 3, n)) (ht : (pc : Int) + off = (tgt : Int)) (hx : inI x) (kt : x = 0 → Z X kc ks mem tgt lv st) (kf : x ≠ 0 → Z X kc ks mem n lv st) : Z X kc ks mem pc lv (.int (iI x) :: st) := by
  intro D cI cL ad ad0 n0 A p e s m args below meth c H locs ls hd hB hWd hag hn hA hS hl
  obtain ⟨h1, rfl⟩ := zI_dec hd h
  exact lv_if_eq hB.1 hB.2.1 h1 ht (fun z => (kt ((iI_eq hx (show inI 0 by omega)).mp z)) D cI cL ad ad0 n0 A p e s m args below meth c H locs ls hd hB hWd hag hn hA hS hl) (fun z => (kf (fun e0 => z ((iI_eq hx (show inI 0 by omega)).mpr e0))) D cI cL ad ad0 n0 A p e s m args below meth c H locs ls hd hB hWd hag hn hA hS hl)

theorem Z_if_ne (k : Nat) {x off : Int} {tgt : Nat} (h : X.I[k]? = some (pc, .ifCond .ne off, 3, n)) (ht : (pc : Int) + off = (tgt : Int)) (hx : inI x) (kt : x ≠ 0 → Z X kc ks mem tgt lv st) (kf : x = 0 → Z X kc ks mem n lv st) : Z X kc ks mem pc lv (.int (iI x) :: st) := by
  intro D cI cL ad ad0 n0 A p e s m args below meth c H locs ls hd hB hWd hag hn hA hS hl
  obtain ⟨h1, rfl⟩ := zI_dec hd h
  exact lv_if_ne hB.1 hB.2.1 h1 ht (fun z => (kt (fun e0 => z ((iI_eq hx (show inI 0 by omega)).mpr e0))) D cI cL ad ad0 n0 A p e s m args below meth c H locs ls hd hB hWd hag hn hA hS hl) (fun z => (kf ((iI_eq hx (show inI 0 by omega)).mp z)) D cI cL ad ad0 n0 A p e s m args below meth c H locs ls hd hB hWd hag hn hA hS hl)

theorem Z_if_lt (k : Nat) {x off : Int} {tgt : Nat} (h : X.I[k]? = some (pc, .ifCond .lt off, 3, n)) (ht : (pc : Int) + off = (tgt : Int)) (hx : inI x) (kt : x < 0 → Z X kc ks mem tgt lv st) (kf : ¬ x < 0 → Z X kc ks mem n lv st) : Z X kc ks mem pc lv (.int (iI x) :: st) := by
  intro D cI cL ad ad0 n0 A p e s m args below meth c H locs ls hd hB hWd hag hn hA hS hl
  obtain ⟨h1, rfl⟩ := zI_dec hd h
  exact lv_if_lt hB.1 hB.2.1 h1 ht (fun z => (kt ((iI_lt hx (show inI 0 by omega)).mp z)) D cI cL ad ad0 n0 A p e s m args below meth c H locs ls hd hB hWd hag hn hA hS hl) (fun z => (kf (fun e0 => z ((iI_lt hx (show inI 0 by omega)).mpr e0))) D cI cL ad ad0 n0 A p e s m args below meth c H locs ls hd hB hWd hag hn hA hS hl)

theorem Z_if_ge (k : Nat) {x off : Int} {tgt : Nat} (h : X.I[k]? = some (pc, .ifCond .ge off, 3, n)) (ht : (pc : Int) + off = (tgt : Int)) (hx : inI x) (kt : 0 ≤ x → Z X kc ks mem tgt lv st) (kf : ¬ 0 ≤ x → Z X kc ks mem n lv st) : Z X kc ks mem pc lv (.int (iI x) :: st) := by
  intro D cI cL ad ad0 n0 A p e s m args below meth c H locs ls hd hB hWd hag hn hA hS hl
  obtain ⟨h1, rfl⟩ := zI_dec hd h
  exact lv_if_ge hB.1 hB.2.1 h1 ht (fun z => (kt ((iI_le (show inI 0 by omega) hx).mp z)) D cI cL ad ad0 n0 A p e s m args below meth c H locs ls hd hB hWd hag hn hA hS hl) (fun z => (kf (fun e0 => z ((iI_le (show inI 0 by omega) hx).mpr e0))) D cI cL ad ad0 n0 A p e s m args below meth c H locs ls hd hB hWd hag hn hA hS hl)

theorem Z_if_gt (k : Nat) {x off : Int} {tgt : Nat} (h : X.I[k]? = some (pc, .ifCond .gt off, 3, n)) (ht : (pc : Int) + off = (tgt : Int)) (hx : inI x) (kt : 0 < x → Z X kc ks mem tgt lv st) (kf : ¬ 0 < x → Z X kc ks mem n lv st) : Z X kc ks mem pc lv (.int (iI x) :: st) := by
  intro D cI cL ad ad0 n0 A p e s m args below meth c H locs ls hd hB hWd hag hn hA hS hl
  obtain ⟨h1, rfl⟩ := zI_dec hd h
  exact lv_if_gt hB.1 hB.2.1 h1 ht (fun z => (kt ((iI_lt (show inI 0 by omega) hx).mp z)) D cI cL ad ad0 n0 A p e s m args below meth c H locs ls hd hB hWd hag hn hA hS hl) (fun z => (kf (fun e0 => z ((iI_lt (show inI 0 by omega) hx).mpr e0))) D cI cL ad ad0 n0 A p e s m args below meth c H locs ls hd hB hWd hag hn hA hS hl)

theorem Z_if_le (k : Nat) {x off : Int} {tgt : Nat} (h : X.I[k]? = some (pc, .ifCond .le off, 3, n)) (ht : (pc : Int) + off = (tgt : Int)) (hx : inI x) (kt : x ≤ 0 → Z X kc ks mem tgt lv st) (kf : ¬ x ≤ 0 → Z X kc ks mem n lv st) : Z X kc ks mem pc lv (.int (iI x) :: st) := by
  intro D cI cL ad ad0 n0 A p e s m args below meth c H locs ls hd hB hWd hag hn hA hS hl
  obtain ⟨h1, rfl⟩ := zI_dec hd h
  exact lv_if_le hB.1 hB.2.1 h1 ht (fun z => (kt ((iI_le hx (show inI 0 by omega)).mp z)) D cI cL ad ad0 n0 A p e s m args below meth c H locs ls hd hB hWd hag hn hA hS hl) (fun z => (kf (fun e0 => z ((iI_le hx (show inI 0 by omega)).mpr e0))) D cI cL ad ad0 n0 A p e s m args below meth c H locs ls hd hB hWd hag hn hA hS hl)

theorem Z_ifr_eq (k : Nat) {x : Int32} {off : Int} {tgt : Nat} (h : X.I[k]? = some (pc, .ifCond .eq off, 3, n)) (ht : (pc : Int) + off = (tgt : Int)) (kt : x = 0 → Z X kc ks mem tgt lv st) (kf : ¬ x = 0 → Z X kc ks mem n lv st) : Z X kc ks mem pc lv (.int x :: st) := by
  intro D cI cL ad ad0 n0 A p e s m args below meth c H locs ls hd hB hWd hag hn hA hS hl
  obtain ⟨h1, rfl⟩ := zI_dec hd h
  exact lv_if_eq hB.1 hB.2.1 h1 ht (fun z => (kt z) D cI cL ad ad0 n0 A p e s m args below meth c H locs ls hd hB hWd hag hn hA hS hl) (fun z => (kf z) D cI cL ad ad0 n0 A p e s m args below meth c H locs ls hd hB hWd hag hn hA hS hl)

theorem Z_ifr_ne (k : Nat) {x : Int32} {off : Int} {tgt : Nat} (h : X.I[k]? = some (pc, .ifCond .ne off, 3, n)) (ht : (pc : Int) + off = (tgt : Int)) (kt : ¬ x = 0 → Z X kc ks mem tgt lv st) (kf : x = 0 → Z X kc ks mem n lv st) : Z X kc ks mem pc lv (.int x :: st) := by
  intro D cI cL ad ad0 n0 A p e s m args below meth c H locs ls hd hB hWd hag hn hA hS hl
  obtain ⟨h1, rfl⟩ := zI_dec hd h
  exact lv_if_ne hB.1 hB.2.1 h1 ht (fun z => (kt z) D cI cL ad ad0 n0 A p e s m args below meth c H locs ls hd hB hWd hag hn hA hS hl) (fun z => (kf z) D cI cL ad ad0 n0 A p e s m args below meth c H locs ls hd hB hWd hag hn hA hS hl)

theorem lg_cmp_i {x y : Int} (hx : inL x) (hy : inL y) : lg_cmp (lI x) (lI y) = iI (if y < x then 1 else if x = y then 0 else -1) := by
  unfold lg_cmp
  simp only [lI_lt hy hx, lI_eq hx hy, lI_lt hx hy]
  repeat' split
  all_goals first | rfl | (exfalso; omega)

theorem Z_lcmp (k : Nat) {x y : Int} (h : X.I[k]? = some (pc, .lcmp, 1, n)) (hx : inL x) (hy : inL y) (kk : Z X kc ks mem n lv (.int (iI (if y < x then 1 else if x = y then 0 else -1)) :: st)) : Z X kc ks mem pc lv (.long (lI y) :: .long (lI x) :: st) := by
  intro D cI cL ad ad0 n0 A p e s m args below meth c H locs ls hd hB hWd hag hn hA hS hl
  obtain ⟨h1, rfl⟩ := zI_dec hd h
  rw [← lg_cmp_i hx hy] at kk
  exact W.lcmp hB.1 hB.2.1 h1 (kk D cI cL ad ad0 n0 A p e s m args below meth c H locs ls hd hB hWd hag hn hA hS hl)

theorem Z_lc_eq (k : Nat) {x y off : Int} {tgt n1 : Nat} (h : X.I[k]? = some (pc, .lcmp, 1, n1)) (h2 : X.I[k + 1]? = some (n1, .ifCond .eq off, 3, n)) (ht : (n1 : Int) + off = (tgt : Int)) (hx : inL x) (hy : inL y) (kt : x = y → Z X kc ks mem tgt lv st) (kf : x ≠ y → Z X kc ks mem n lv st) : Z X kc ks mem pc lv (.long (lI y) :: .long (lI x) :: st) :=
  Z_lcmp k h hx hy (Z_if_eq (k + 1) h2 ht (by split <;> (try split) <;> omega) (fun z => kt (by split at z <;> (try split at z) <;> omega)) (fun z => kf (by split at z <;> (try split at z) <;> omega)))

theorem Z_lc_ne (k : Nat) {x y off : Int} {tgt n1 : Nat} (h : X.I[k]? = some (pc, .lcmp, 1, n1)) (h2 : X.I[k + 1]? = some (n1, .ifCond .ne off, 3, n)) (ht : (n1 : Int) + off = (tgt : Int)) (hx : inL x) (hy : inL y) (kt : x ≠ y → Z X kc ks mem tgt lv st) (kf : x = y → Z X kc ks mem n lv st) : Z X kc ks mem pc lv (.long (lI y) :: .long (lI x) :: st) :=
  Z_lcmp k h hx hy (Z_if_ne (k + 1) h2 ht (by split <;> (try split) <;> omega) (fun z => kt (by split at z <;> (try split at z) <;> omega)) (fun z => kf (by split at z <;> (try split at z) <;> omega)))

theorem Z_lc_lt (k : Nat) {x y off : Int} {tgt n1 : Nat} (h : X.I[k]? = some (pc, .lcmp, 1, n1)) (h2 : X.I[k + 1]? = some (n1, .ifCond .lt off, 3, n)) (ht : (n1 : Int) + off = (tgt : Int)) (hx : inL x) (hy : inL y) (kt : x < y → Z X kc ks mem tgt lv st) (kf : ¬ x < y → Z X kc ks mem n lv st) : Z X kc ks mem pc lv (.long (lI y) :: .long (lI x) :: st) :=
  Z_lcmp k h hx hy (Z_if_lt (k + 1) h2 ht (by split <;> (try split) <;> omega) (fun z => kt (by split at z <;> (try split at z) <;> omega)) (fun z => kf (by split at z <;> (try split at z) <;> omega)))

theorem Z_lc_ge (k : Nat) {x y off : Int} {tgt n1 : Nat} (h : X.I[k]? = some (pc, .lcmp, 1, n1)) (h2 : X.I[k + 1]? = some (n1, .ifCond .ge off, 3, n)) (ht : (n1 : Int) + off = (tgt : Int)) (hx : inL x) (hy : inL y) (kt : y ≤ x → Z X kc ks mem tgt lv st) (kf : ¬ y ≤ x → Z X kc ks mem n lv st) : Z X kc ks mem pc lv (.long (lI y) :: .long (lI x) :: st) :=
  Z_lcmp k h hx hy (Z_if_ge (k + 1) h2 ht (by split <;> (try split) <;> omega) (fun z => kt (by split at z <;> (try split at z) <;> omega)) (fun z => kf (by split at z <;> (try split at z) <;> omega)))

theorem Z_lc_gt (k : Nat) {x y off : Int} {tgt n1 : Nat} (h : X.I[k]? = some (pc, .lcmp, 1, n1)) (h2 : X.I[k + 1]? = some (n1, .ifCond .gt off, 3, n)) (ht : (n1 : Int) + off = (tgt : Int)) (hx : inL x) (hy : inL y) (kt : y < x → Z X kc ks mem tgt lv st) (kf : ¬ y < x → Z X kc ks mem n lv st) : Z X kc ks mem pc lv (.long (lI y) :: .long (lI x) :: st) :=
  Z_lcmp k h hx hy (Z_if_gt (k + 1) h2 ht (by split <;> (try split) <;> omega) (fun z => kt (by split at z <;> (try split at z) <;> omega)) (fun z => kf (by split at z <;> (try split at z) <;> omega)))

theorem Z_lc_le (k : Nat) {x y off : Int} {tgt n1 : Nat} (h : X.I[k]? = some (pc, .lcmp, 1, n1)) (h2 : X.I[k + 1]? = some (n1, .ifCond .le off, 3, n)) (ht : (n1 : Int) + off = (tgt : Int)) (hx : inL x) (hy : inL y) (kt : x ≤ y → Z X kc ks mem tgt lv st) (kf : ¬ x ≤ y → Z X kc ks mem n lv st) : Z X kc ks mem pc lv (.long (lI y) :: .long (lI x) :: st) :=
  Z_lcmp k h hx hy (Z_if_le (k + 1) h2 ht (by split <;> (try split) <;> omega) (fun z => kt (by split at z <;> (try split at z) <;> omega)) (fun z => kf (by split at z <;> (try split at z) <;> omega)))

end ZR
