/-! Train: kinds, longs, rises, how many -/
abbrev TT : Type := (Int → Int) × (Int → Int) × (Int → Int) × Int
def eT (t : TT) : List zE := [zO 5 [.ref 1, .ref 2, .ref 3, .int (iI t.2.2.2)], aI 12 t.1, aI 12 t.2.1, aI 12 t.2.2.1]
def TB (t : TT) : Prop := (0 ≤ t.2.2.2 ∧ t.2.2.2 ≤ 12) ∧ (∀ i, 0 ≤ t.1 i ∧ t.1 i ≤ 5) ∧ (∀ i, 0 ≤ t.2.1 i ∧ t.2.1 i ≤ 360) ∧ ∀ i, -99 ≤ t.2.2.1 i ∧ t.2.2.1 i ≤ 99
/-- the sum of the first k -/
def sm (f : Int → Int) : Nat → Int
  | 0 => 0
  | k + 1 => sm f k + f (k : Int)
def sI (f : Int → Int) (k : Int) : Int := sm f k.toNat
theorem sI_0 (f : Int → Int) : sI f 0 = 0 := rfl
theorem sI_neg (f : Int → Int) {k : Int} (h : k ≤ 0) : sI f k = 0 := by
  unfold sI
  rw [show k.toNat = 0 by omega]
  rfl
theorem sI_s (f : Int → Int) {k : Int} (h : 0 ≤ k) : sI f (k + 1) = sI f k + f k := by
  unfold sI
  rw [show (k + 1).toNat = k.toNat + 1 by omega]
  show sm f k.toNat + f (k.toNat : Int) = _
  rw [Int.toNat_of_nonneg h]
theorem sI_bd (f : Int → Int) (A : Int) (hA : 0 ≤ A) (hf : ∀ i, -A ≤ f i ∧ f i ≤ A) : ∀ (k : Nat), -(A * k) ≤ sm f k ∧ sm f k ≤ A * k := by
  intro k
  induction k with
  | zero => simp [sm]
  | succ k ih =>
    have := hf (k : Int)
    show -(A * ((k + 1 : Nat) : Int)) ≤ sm f k + f k ∧ sm f k + f k ≤ A * ((k + 1 : Nat) : Int)
    have e : A * ((k + 1 : Nat) : Int) = A * k + A := by
      rw [show ((k + 1 : Nat) : Int) = (k : Int) + 1 from rfl, Int.mul_add, Int.mul_one]
    omega
def tot (t : TT) : Int := sI t.2.1 t.2.2.2
def ah (t : TT) (k : Int) : Int := sI t.2.2.1 k
def bg (t : TT) (k : Int) : Int := sI t.2.1 k
theorem bg_bd {t : TT} (h : TB t) {k : Int} (hk : k ≤ 12) : -4320 ≤ bg t k ∧ bg t k ≤ 4320 := by
  have h1 := sI_bd t.2.1 360 (by omega) (fun i => by have := h.2.2.1 i; omega) k.toNat
  unfold bg sI
  omega
theorem ah_bd {t : TT} (h : TB t) {k : Int} (hk : k ≤ 12) : -1188 ≤ ah t k ∧ ah t k ≤ 1188 := by
  have h1 := sI_bd t.2.2.1 99 (by omega) (fun i => h.2.2.2 i) k.toNat
  unfold ah sI
  omega
theorem tot_bd {t : TT} (h : TB t) : -4320 ≤ tot t ∧ tot t ≤ 4320 := bg_bd h h.1.2
def clo (t : TT) : Prop := tot t = 360 ∧ ah t t.2.2.2 = 0
theorem c_T_size (l : Launch) (t : TT) : Con l M_T_size R_T_size 0 0 false [.ref 0] (eT t) (zAi t.2.2.2 (fun m => m = eT t)) := by
  refine Con.of_Z (by decide) D_T_size (Nat.le_of_ble_eq_true rfl) ?_
  refine Z_aload_n 0 rfl rfl rfl ?_
  refine Z_get 1 rfl f_T_21 rfl rfl ?_
  refine Z_iret 2 rfl rfl ⟨Nat.le_refl _, Nat.le_refl _⟩ ?_
  exact ⟨rfl, rfl⟩
theorem c_T_isFull (l : Launch) (t : TT) (h : TB t) : Con l M_T_isFull R_T_isFull 0 0 false [.ref 0] (eT t) (zAb (12 ≤ t.2.2.2) (fun m => m = eT t)) := by
  have h1 := h.1
  refine Con.of_Z (by decide) D_T_isFull (Nat.le_of_ble_eq_true rfl) ?_
  refine Z_aload_n 0 rfl rfl rfl ?_
  refine Z_get 1 rfl f_T_21 rfl rfl ?_
  refine Z_bipush 2 rfl rfl ?_
  refine Z_icmp_lt 3 rfl (tgt := 13) rfl (by omega) (by omega) (fun c6 => ?_) (fun c6 => ?_)
  · refine Z_iconst 6 rfl ?_
    refine Z_zret 7 rfl rfl rfl ⟨Nat.le_refl _, Nat.le_refl _⟩ ?_
    exact ⟨by first | rw [bI_t (by omega)] | rw [bI_f (by omega)], rfl⟩
  · refine Z_iconst 4 rfl ?_
    refine Z_goto 5 rfl (tgt := 14) rfl ?_
    refine Z_zret 7 rfl rfl rfl ⟨Nat.le_refl _, Nat.le_refl _⟩ ?_
    exact ⟨by first | rw [bI_t (by omega)] | rw [bI_f (by omega)], rfl⟩
theorem c_T_has (l : Launch) (t : TT) (h : TB t) (k : Int) (hk : inI k) : Con l M_T_has R_T_has 0 0 false [.ref 0, .int (iI k)] (eT t) (zAb (0 ≤ k ∧ k < t.2.2.2) (fun m => m = eT t)) := by
  have h1 := h.1
  refine Con.of_Z (by decide) D_T_has (Nat.le_of_ble_eq_true rfl) ?_
  refine Z_iload_n 0 rfl rfl rfl ?_
  refine Z_if_lt 1 rfl (tgt := 16) rfl (by omega) (fun c1 => ?_) (fun c1 => ?_)
  · refine Z_iconst 8 rfl ?_
    refine Z_zret 9 rfl rfl rfl ⟨Nat.le_refl _, Nat.le_refl _⟩ ?_
    exact ⟨by first | rw [bI_t (by omega)] | rw [bI_f (by omega)], rfl⟩
  · refine Z_iload_n 2 rfl rfl rfl ?_
    refine Z_aload_n 3 rfl rfl rfl ?_
    refine Z_get 4 rfl f_T_21 rfl rfl ?_
    refine Z_icmp_ge 5 rfl (tgt := 16) rfl (by omega) (by omega) (fun c9 => ?_) (fun c9 => ?_)
    · refine Z_iconst 8 rfl ?_
      refine Z_zret 9 rfl rfl rfl ⟨Nat.le_refl _, Nat.le_refl _⟩ ?_
      exact ⟨by first | rw [bI_t (by omega)] | rw [bI_f (by omega)], rfl⟩
    · refine Z_iconst 6 rfl ?_
      refine Z_goto 7 rfl (tgt := 17) rfl ?_
      refine Z_zret 9 rfl rfl rfl ⟨Nat.le_refl _, Nat.le_refl _⟩ ?_
      exact ⟨by first | rw [bI_t (by omega)] | rw [bI_f (by omega)], rfl⟩
theorem c_T_kindOf (l : Launch) (t : TT) (k : Int) (hk : 0 ≤ k ∧ k < 12) : Con l M_T_kindOf R_T_kindOf 0 0 false [.ref 0, .int (iI k)] (eT t) (zAi (t.1 k) (fun m => m = eT t)) := by
  refine Con.of_Z (by decide) D_T_kindOf (Nat.le_of_ble_eq_true rfl) ?_
  refine Z_iload_n 0 rfl rfl rfl ?_
  refine Z_if_lt 1 rfl (tgt := 22) rfl (by omega) (fun c1 => ?_) (fun c1 => ?_)
  · exfalso; omega
  refine Z_iload_n 2 rfl rfl rfl ?_
  refine Z_aload_n 3 rfl rfl rfl ?_
  refine Z_get 4 rfl f_T_9 rfl rfl ?_
  refine Z_alI 5 rfl rfl ?_
  refine Z_icmp_ge 6 rfl (tgt := 22) rfl (by omega) (by omega) (fun c10 => ?_) (fun c10 => ?_)
  · exfalso; omega
  refine Z_aload_n 7 rfl rfl rfl ?_
  refine Z_get 8 rfl f_T_9 rfl rfl ?_
  refine Z_iload_n 9 rfl rfl rfl ?_
  refine Z_ia 10 rfl rfl (by omega) (by decide) ?_
  refine Z_goto 11 rfl (tgt := 23) rfl ?_
  refine Z_iret 13 rfl rfl ⟨Nat.le_refl _, Nat.le_refl _⟩ ?_
  exact ⟨rfl, rfl⟩
theorem c_T_longOf (l : Launch) (t : TT) (k : Int) (hk : 0 ≤ k ∧ k < 12) : Con l M_T_longOf R_T_longOf 0 0 false [.ref 0, .int (iI k)] (eT t) (zAi (t.2.1 k) (fun m => m = eT t)) := by
  refine Con.of_Z (by decide) D_T_longOf (Nat.le_of_ble_eq_true rfl) ?_
  refine Z_iload_n 0 rfl rfl rfl ?_
  refine Z_if_lt 1 rfl (tgt := 22) rfl (by omega) (fun c1 => ?_) (fun c1 => ?_)
  · exfalso; omega
  refine Z_iload_n 2 rfl rfl rfl ?_
  refine Z_aload_n 3 rfl rfl rfl ?_
  refine Z_get 4 rfl f_T_15 rfl rfl ?_
  refine Z_alI 5 rfl rfl ?_
  refine Z_icmp_ge 6 rfl (tgt := 22) rfl (by omega) (by omega) (fun c10 => ?_) (fun c10 => ?_)
  · exfalso; omega
  refine Z_aload_n 7 rfl rfl rfl ?_
  refine Z_get 8 rfl f_T_15 rfl rfl ?_
  refine Z_iload_n 9 rfl rfl rfl ?_
  refine Z_ia 10 rfl rfl (by omega) (by decide) ?_
  refine Z_goto 11 rfl (tgt := 23) rfl ?_
  refine Z_iret 13 rfl rfl ⟨Nat.le_refl _, Nat.le_refl _⟩ ?_
  exact ⟨rfl, rfl⟩
theorem c_T_riseOf (l : Launch) (t : TT) (k : Int) (hk : 0 ≤ k ∧ k < 12) : Con l M_T_riseOf R_T_riseOf 0 0 false [.ref 0, .int (iI k)] (eT t) (zAi (t.2.2.1 k) (fun m => m = eT t)) := by
  refine Con.of_Z (by decide) D_T_riseOf (Nat.le_of_ble_eq_true rfl) ?_
  refine Z_iload_n 0 rfl rfl rfl ?_
  refine Z_if_lt 1 rfl (tgt := 22) rfl (by omega) (fun c1 => ?_) (fun c1 => ?_)
  · exfalso; omega
  refine Z_iload_n 2 rfl rfl rfl ?_
  refine Z_aload_n 3 rfl rfl rfl ?_
  refine Z_get 4 rfl f_T_18 rfl rfl ?_
  refine Z_alI 5 rfl rfl ?_
  refine Z_icmp_ge 6 rfl (tgt := 22) rfl (by omega) (by omega) (fun c10 => ?_) (fun c10 => ?_)
  · exfalso; omega
  refine Z_aload_n 7 rfl rfl rfl ?_
  refine Z_get 8 rfl f_T_18 rfl rfl ?_
  refine Z_iload_n 9 rfl rfl rfl ?_
  refine Z_ia 10 rfl rfl (by omega) (by decide) ?_
  refine Z_goto 11 rfl (tgt := 23) rfl ?_
  refine Z_iret 13 rfl rfl ⟨Nat.le_refl _, Nat.le_refl _⟩ ?_
  exact ⟨rfl, rfl⟩
def ptOf (t : TT) (k what : Int) : Int := if what = 0 then t.1 k else if what = 1 then t.2.1 k else t.2.2.1 k
theorem c_T_partOf (l : Launch) (t : TT) (k what : Int) (hk : 0 ≤ k ∧ k < 12) (hw : inI what) : Con l M_T_partOf R_T_partOf 0 0 false [.ref 0, .int (iI k), .int (iI what)] (eT t) (zAi (ptOf t k what) (fun m => m = eT t)) := by
  refine Con.of_Z (by decide) D_T_partOf (Nat.le_of_ble_eq_true rfl) ?_
  refine Z_iload_n 0 rfl rfl rfl ?_
  refine Z_if_ne 1 rfl (tgt := 12) rfl (by omega) (fun c1 => ?_) (fun c1 => ?_)
  · refine Z_iload_n 6 rfl rfl rfl ?_
    refine Z_iconst 7 rfl ?_
    refine Z_icmp_ne 8 rfl (tgt := 25) rfl (by omega) (by omega) (fun c14 => ?_) (fun c14 => ?_)
    · refine Z_aload_n 13 rfl rfl rfl ?_
      refine Z_iload_n 14 rfl rfl rfl ?_
      refine Z_callVip (M' := M_T_riseOf) 15 [0, 1, 2, 3] rfl l_T_32 C_T_riseOf (c_T_riseOf l t k hk) ⟨by decide, (zEL.c (Or.inl rfl) (zEL.c (Or.inl rfl) (zEL.c (Or.inl rfl) (zEL.c (Or.inl rfl) zEL.n))))⟩ (Or.inl ⟨_, _, _, _, rfl, rfl⟩) rfl rfl rfl (Nat.le_of_ble_eq_true rfl) ⟨rfl, rfl, Nat.le_of_ble_eq_true rfl, Nat.le_of_ble_eq_true rfl⟩ ⟨Nat.zero_le _, Nat.zero_le _⟩ ?_
      refine Z_iret 16 rfl rfl ⟨Nat.le_refl _, Nat.le_refl _⟩ ?_
      exact ⟨by unfold ptOf; first | rw [if_pos (by omega)] | rw [if_neg (by omega), if_pos (by omega)] | rw [if_neg (by omega), if_neg (by omega)], rfl⟩
    · refine Z_aload_n 9 rfl rfl rfl ?_
      refine Z_iload_n 10 rfl rfl rfl ?_
      refine Z_callVip (M' := M_T_longOf) 11 [0, 1, 2, 3] rfl l_T_29 C_T_longOf (c_T_longOf l t k hk) ⟨by decide, (zEL.c (Or.inl rfl) (zEL.c (Or.inl rfl) (zEL.c (Or.inl rfl) (zEL.c (Or.inl rfl) zEL.n))))⟩ (Or.inl ⟨_, _, _, _, rfl, rfl⟩) rfl rfl rfl (Nat.le_of_ble_eq_true rfl) ⟨rfl, rfl, Nat.le_of_ble_eq_true rfl, Nat.le_of_ble_eq_true rfl⟩ ⟨Nat.zero_le _, Nat.zero_le _⟩ ?_
      refine Z_goto 12 rfl (tgt := 30) rfl ?_
      refine Z_iret 16 rfl rfl ⟨Nat.le_refl _, Nat.le_refl _⟩ ?_
      exact ⟨by unfold ptOf; first | rw [if_pos (by omega)] | rw [if_neg (by omega), if_pos (by omega)] | rw [if_neg (by omega), if_neg (by omega)], rfl⟩
  · refine Z_aload_n 2 rfl rfl rfl ?_
    refine Z_iload_n 3 rfl rfl rfl ?_
    refine Z_callVip (M' := M_T_kindOf) 4 [0, 1, 2, 3] rfl l_T_25 C_T_kindOf (c_T_kindOf l t k hk) ⟨by decide, (zEL.c (Or.inl rfl) (zEL.c (Or.inl rfl) (zEL.c (Or.inl rfl) (zEL.c (Or.inl rfl) zEL.n))))⟩ (Or.inl ⟨_, _, _, _, rfl, rfl⟩) rfl rfl rfl (Nat.le_of_ble_eq_true rfl) ⟨rfl, rfl, Nat.le_of_ble_eq_true rfl, Nat.le_of_ble_eq_true rfl⟩ ⟨Nat.zero_le _, Nat.zero_le _⟩ ?_
    refine Z_goto 5 rfl (tgt := 30) rfl ?_
    refine Z_iret 16 rfl rfl ⟨Nat.le_refl _, Nat.le_refl _⟩ ?_
    exact ⟨by unfold ptOf; first | rw [if_pos (by omega)] | rw [if_neg (by omega), if_pos (by omega)] | rw [if_neg (by omega), if_neg (by omega)], rfl⟩
theorem lp_T_beginOf (l : Launch) (t : TT) (h : TB t) (k M : Int) (hk : inI k) (hM : (M = k ∧ k ≤ t.2.2.2 ∧ 0 ≤ k) ∨ (M = t.2.2.2 ∧ t.2.2.2 ≤ k) ∨ (M = 0 ∧ k ≤ 0)) : ∀ (d : Nat) (j : Int), 0 ≤ j → j ≤ M → M - j < d → Z (l, M_T_beginOf, R_T_beginOf, (0, 0), false, zAi (sI t.2.1 M) (fun m => m = eT t)) 0 0 (eT t) 4 [(0, .ref 0), (1, .int (iI k)), (2, .int (iI (sI t.2.1 j))), (3, .int (iI j))] [] := by
  have h1 := h.1
  intro d
  induction d with
  | zero => intro i h1 h2 h3; omega
  | succ d ih =>
    intro j h2 h3 h4
    refine Z_iload_n 4 rfl rfl rfl ?_
    refine Z_iload_n 5 rfl rfl rfl ?_
    refine Z_icmp_ge 6 rfl (tgt := 31) rfl (by omega) (by omega) (fun c6 => ?_) (fun c6 => ?_)
    · refine Z_iload_n 19 rfl rfl rfl ?_
      refine Z_iret 20 rfl rfl ⟨Nat.le_refl _, Nat.le_refl _⟩ ?_
      exact ⟨by rw [show j = M by omega], rfl⟩
    · refine Z_iload_n 7 rfl rfl rfl ?_
      refine Z_aload_n 8 rfl rfl rfl ?_
      refine Z_get 9 rfl f_T_21 rfl rfl ?_
      refine Z_icmp_ge 10 rfl (tgt := 31) rfl (by omega) (by omega) (fun c14 => ?_) (fun c14 => ?_)
      · refine Z_iload_n 19 rfl rfl rfl ?_
        refine Z_iret 20 rfl rfl ⟨Nat.le_refl _, Nat.le_refl _⟩ ?_
        exact ⟨by rw [show j = M by omega], rfl⟩
      · refine Z_iload_n 11 rfl rfl rfl ?_
        refine Z_aload_n 12 rfl rfl rfl ?_
        refine Z_iload_n 13 rfl rfl rfl ?_
        refine Z_callVip (M' := M_T_longOf) 14 [0, 1, 2, 3] rfl l_T_29 C_T_longOf (c_T_longOf l t j (by omega)) ⟨by decide, (zEL.c (Or.inl rfl) (zEL.c (Or.inl rfl) (zEL.c (Or.inl rfl) (zEL.c (Or.inl rfl) zEL.n))))⟩ (Or.inl ⟨_, _, _, _, rfl, rfl⟩) rfl rfl rfl (Nat.le_of_ble_eq_true rfl) ⟨rfl, rfl, Nat.le_of_ble_eq_true rfl, Nat.le_of_ble_eq_true rfl⟩ ⟨Nat.zero_le _, Nat.zero_le _⟩ ?_
        refine Z_iadd 15 rfl ?_
        refine Z_ci (sI_s t.2.1 h2).symm ?_
        refine Z_istore_n 16 rfl rfl (Nat.le_of_ble_eq_true rfl) (lv' := [(2, .int _), (0, .ref _), (1, .int _), (3, .int _)]) rfl ?_
        refine Z_iinc 17 rfl rfl (Nat.le_of_ble_eq_true rfl) (lv' := [(3, .int _), (2, .int _), (0, .ref _), (1, .int _)]) rfl ?_
        refine Z_goto 18 rfl (tgt := 4) rfl ?_
        refine Z_pick [0, 1, 2, 3] (lv' := [(0, .ref _), (1, .int _), (2, .int _), (3, .int _)]) rfl ?_
        exact ih (j + 1) (by omega) (by omega) (by omega)
theorem c_T_beginOf (l : Launch) (t : TT) (h : TB t) (k M : Int) (hk : inI k) (hM : (M = k ∧ k ≤ t.2.2.2 ∧ 0 ≤ k) ∨ (M = t.2.2.2 ∧ t.2.2.2 ≤ k) ∨ (M = 0 ∧ k ≤ 0)) : Con l M_T_beginOf R_T_beginOf 0 0 false [.ref 0, .int (iI k)] (eT t) (zAi (sI t.2.1 M) (fun m => m = eT t)) := by
  have h1 := h.1
  refine Con.of_Z (by decide) D_T_beginOf (Nat.le_of_ble_eq_true rfl) ?_
  refine Z_iconst 0 rfl ?_
  refine Z_istore_n 1 rfl rfl (Nat.le_of_ble_eq_true rfl) (lv' := [(2, .int _), (0, .ref _), (1, .int _)]) rfl ?_
  refine Z_iconst 2 rfl ?_
  refine Z_istore_n 3 rfl rfl (Nat.le_of_ble_eq_true rfl) (lv' := [(3, .int _), (2, .int _), (0, .ref _), (1, .int _)]) rfl ?_
  refine Z_pick [0, 1, 2, 3] (lv' := [(0, .ref _), (1, .int _), (2, .int _), (3, .int _)]) rfl ?_
  exact lp_T_beginOf l t h k M hk hM 13 0 (by omega) (by omega) (by omega)
theorem lp_T_liftOf (l : Launch) (t : TT) (h : TB t) (k M : Int) (hk : inI k) (hM : (M = k ∧ k ≤ t.2.2.2 ∧ 0 ≤ k) ∨ (M = t.2.2.2 ∧ t.2.2.2 ≤ k) ∨ (M = 0 ∧ k ≤ 0)) : ∀ (d : Nat) (j : Int), 0 ≤ j → j ≤ M → M - j < d → Z (l, M_T_liftOf, R_T_liftOf, (0, 0), false, zAi (sI t.2.2.1 M) (fun m => m = eT t)) 0 0 (eT t) 4 [(0, .ref 0), (1, .int (iI k)), (2, .int (iI (sI t.2.2.1 j))), (3, .int (iI j))] [] := by
  have h1 := h.1
  intro d
  induction d with
  | zero => intro i h1 h2 h3; omega
  | succ d ih =>
    intro j h2 h3 h4
    refine Z_iload_n 4 rfl rfl rfl ?_
    refine Z_iload_n 5 rfl rfl rfl ?_
    refine Z_icmp_ge 6 rfl (tgt := 31) rfl (by omega) (by omega) (fun c6 => ?_) (fun c6 => ?_)
    · refine Z_iload_n 19 rfl rfl rfl ?_
      refine Z_iret 20 rfl rfl ⟨Nat.le_refl _, Nat.le_refl _⟩ ?_
      exact ⟨by rw [show j = M by omega], rfl⟩
    · refine Z_iload_n 7 rfl rfl rfl ?_
      refine Z_aload_n 8 rfl rfl rfl ?_
      refine Z_get 9 rfl f_T_21 rfl rfl ?_
      refine Z_icmp_ge 10 rfl (tgt := 31) rfl (by omega) (by omega) (fun c14 => ?_) (fun c14 => ?_)
      · refine Z_iload_n 19 rfl rfl rfl ?_
        refine Z_iret 20 rfl rfl ⟨Nat.le_refl _, Nat.le_refl _⟩ ?_
        exact ⟨by rw [show j = M by omega], rfl⟩
      · refine Z_iload_n 11 rfl rfl rfl ?_
        refine Z_aload_n 12 rfl rfl rfl ?_
        refine Z_iload_n 13 rfl rfl rfl ?_
        refine Z_callVip (M' := M_T_riseOf) 14 [0, 1, 2, 3] rfl l_T_32 C_T_riseOf (c_T_riseOf l t j (by omega)) ⟨by decide, (zEL.c (Or.inl rfl) (zEL.c (Or.inl rfl) (zEL.c (Or.inl rfl) (zEL.c (Or.inl rfl) zEL.n))))⟩ (Or.inl ⟨_, _, _, _, rfl, rfl⟩) rfl rfl rfl (Nat.le_of_ble_eq_true rfl) ⟨rfl, rfl, Nat.le_of_ble_eq_true rfl, Nat.le_of_ble_eq_true rfl⟩ ⟨Nat.zero_le _, Nat.zero_le _⟩ ?_
        refine Z_iadd 15 rfl ?_
        refine Z_ci (sI_s t.2.2.1 h2).symm ?_
        refine Z_istore_n 16 rfl rfl (Nat.le_of_ble_eq_true rfl) (lv' := [(2, .int _), (0, .ref _), (1, .int _), (3, .int _)]) rfl ?_
        refine Z_iinc 17 rfl rfl (Nat.le_of_ble_eq_true rfl) (lv' := [(3, .int _), (2, .int _), (0, .ref _), (1, .int _)]) rfl ?_
        refine Z_goto 18 rfl (tgt := 4) rfl ?_
        refine Z_pick [0, 1, 2, 3] (lv' := [(0, .ref _), (1, .int _), (2, .int _), (3, .int _)]) rfl ?_
        exact ih (j + 1) (by omega) (by omega) (by omega)
theorem c_T_liftOf (l : Launch) (t : TT) (h : TB t) (k M : Int) (hk : inI k) (hM : (M = k ∧ k ≤ t.2.2.2 ∧ 0 ≤ k) ∨ (M = t.2.2.2 ∧ t.2.2.2 ≤ k) ∨ (M = 0 ∧ k ≤ 0)) : Con l M_T_liftOf R_T_liftOf 0 0 false [.ref 0, .int (iI k)] (eT t) (zAi (sI t.2.2.1 M) (fun m => m = eT t)) := by
  have h1 := h.1
  refine Con.of_Z (by decide) D_T_liftOf (Nat.le_of_ble_eq_true rfl) ?_
  refine Z_iconst 0 rfl ?_
  refine Z_istore_n 1 rfl rfl (Nat.le_of_ble_eq_true rfl) (lv' := [(2, .int _), (0, .ref _), (1, .int _)]) rfl ?_
  refine Z_iconst 2 rfl ?_
  refine Z_istore_n 3 rfl rfl (Nat.le_of_ble_eq_true rfl) (lv' := [(3, .int _), (2, .int _), (0, .ref _), (1, .int _)]) rfl ?_
  refine Z_pick [0, 1, 2, 3] (lv' := [(0, .ref _), (1, .int _), (2, .int _), (3, .int _)]) rfl ?_
  exact lp_T_liftOf l t h k M hk hM 13 0 (by omega) (by omega) (by omega)
theorem c_T_total (l : Launch) (t : TT) (h : TB t) : Con l M_T_total R_T_total 0 0 false [.ref 0] (eT t) (zAi (tot t) (fun m => m = eT t)) := by
  have h1 := h.1
  refine Con.of_Z (by decide) D_T_total (Nat.le_of_ble_eq_true rfl) ?_
  refine Z_aload_n 0 rfl rfl rfl ?_
  refine Z_aload_n 1 rfl rfl rfl ?_
  refine Z_get 2 rfl f_T_21 rfl rfl ?_
  refine Z_callVip (M' := M_T_beginOf) 3 [0, 1, 2, 3] rfl l_T_35 C_T_beginOf (c_T_beginOf l t h t.2.2.2 t.2.2.2 (by omega) (by omega)) ⟨by decide, (zEL.c (Or.inl rfl) (zEL.c (Or.inl rfl) (zEL.c (Or.inl rfl) (zEL.c (Or.inl rfl) zEL.n))))⟩ (Or.inl ⟨_, _, _, _, rfl, rfl⟩) rfl rfl rfl (Nat.le_of_ble_eq_true rfl) ⟨rfl, rfl, Nat.le_of_ble_eq_true rfl, Nat.le_of_ble_eq_true rfl⟩ ⟨Nat.zero_le _, Nat.zero_le _⟩ ?_
  refine Z_iret 4 rfl rfl ⟨Nat.le_refl _, Nat.le_refl _⟩ ?_
  exact ⟨rfl, rfl⟩
theorem c_T_isClosed (l : Launch) (t : TT) (h : TB t) : Con l M_T_isClosed R_T_isClosed 0 0 false [.ref 0] (eT t) (zAb (clo t) (fun m => m = eT t)) := by
  have h1 := h.1
  have h2 := tot_bd h
  have h3 := ah_bd h h1.2
  refine Con.of_Z (by decide) D_T_isClosed (Nat.le_of_ble_eq_true rfl) ?_
  refine Z_aload_n 0 rfl rfl rfl ?_
  refine Z_callVip (M' := M_T_total) 1 [0, 1, 2, 3] rfl l_T_38 C_T_total (c_T_total l t h) ⟨by decide, (zEL.c (Or.inl rfl) (zEL.c (Or.inl rfl) (zEL.c (Or.inl rfl) (zEL.c (Or.inl rfl) zEL.n))))⟩ (Or.inl ⟨_, _, _, _, rfl, rfl⟩) rfl rfl rfl (Nat.le_of_ble_eq_true rfl) ⟨rfl, rfl, Nat.le_of_ble_eq_true rfl, Nat.le_of_ble_eq_true rfl⟩ ⟨Nat.zero_le _, Nat.zero_le _⟩ ?_
  refine Z_sipush 2 rfl rfl ?_
  refine Z_icmp_ne 3 rfl (tgt := 25) rfl (by omega) (by omega) (fun c7 => ?_) (fun c7 => ?_)
  · refine Z_iconst 11 rfl ?_
    refine Z_zret 12 rfl rfl rfl ⟨Nat.le_refl _, Nat.le_refl _⟩ ?_
    exact ⟨by first | rw [bI_t ⟨by omega, by first | assumption | (unfold ah at *; omega)⟩] | rw [bI_f (fun z => by have := z.1; have := z.2; unfold ah at *; omega)], rfl⟩
  · refine Z_aload_n 4 rfl rfl rfl ?_
    refine Z_aload_n 5 rfl rfl rfl ?_
    refine Z_get 6 rfl f_T_21 rfl rfl ?_
    refine Z_callVip (M' := M_T_liftOf) 7 [0, 1, 2, 3] rfl l_T_42 C_T_liftOf (c_T_liftOf l t h t.2.2.2 t.2.2.2 (by omega) (by omega)) ⟨by decide, (zEL.c (Or.inl rfl) (zEL.c (Or.inl rfl) (zEL.c (Or.inl rfl) (zEL.c (Or.inl rfl) zEL.n))))⟩ (Or.inl ⟨_, _, _, _, rfl, rfl⟩) rfl rfl rfl (Nat.le_of_ble_eq_true rfl) ⟨rfl, rfl, Nat.le_of_ble_eq_true rfl, Nat.le_of_ble_eq_true rfl⟩ ⟨Nat.zero_le _, Nat.zero_le _⟩ ?_
    refine Z_if_ne 8 rfl (tgt := 25) rfl (by unfold ah at h3; omega) (fun c18 => ?_) (fun c18 => ?_)
    · refine Z_iconst 11 rfl ?_
      refine Z_zret 12 rfl rfl rfl ⟨Nat.le_refl _, Nat.le_refl _⟩ ?_
      exact ⟨by first | rw [bI_t ⟨by omega, by first | assumption | (unfold ah at *; omega)⟩] | rw [bI_f (fun z => by have := z.1; have := z.2; unfold ah at *; omega)], rfl⟩
    · refine Z_iconst 9 rfl ?_
      refine Z_goto 10 rfl (tgt := 26) rfl ?_
      refine Z_zret 12 rfl rfl rfl ⟨Nat.le_refl _, Nat.le_refl _⟩ ?_
      exact ⟨by first | rw [bI_t ⟨by omega, by first | assumption | (unfold ah at *; omega)⟩] | rw [bI_f (fun z => by have := z.1; have := z.2; unfold ah at *; omega)], rfl⟩
theorem c_T_empty (l : Launch) (t : TT) : Con l M_T_empty R_T_empty 0 0 false [.ref 0] (eT t) (zAv (fun m => m = eT (t.1, t.2.1, t.2.2.1, 0))) := by
  refine Con.of_Z (by decide) D_T_empty (Nat.le_of_ble_eq_true rfl) ?_
  refine Z_aload_n 0 rfl rfl rfl ?_
  refine Z_iconst 1 rfl ?_
  refine Z_put 2 rfl f_T_21 rfl (Nat.le_of_ble_eq_true rfl) (fun _ => ⟨rfl, rfl⟩) (fs' := []) (mem' := eT (t.1, t.2.1, t.2.2.1, 0)) rfl ?_
  refine Z_vret 3 rfl rfl ⟨Nat.le_refl _, Nat.le_refl _⟩ ?_
  exact ⟨rfl, rfl⟩
theorem c_T_shorten (l : Launch) (t : TT) (h : TB t) (h0 : 0 < t.2.2.2) : Con l M_T_shorten R_T_shorten 0 0 false [.ref 0] (eT t) (zAv (fun m => m = eT (t.1, t.2.1, t.2.2.1, t.2.2.2 - 1))) := by
  have h1 := h.1
  refine Con.of_Z (by decide) D_T_shorten (Nat.le_of_ble_eq_true rfl) ?_
  refine Z_aload_n 0 rfl rfl rfl ?_
  refine Z_get 1 rfl f_T_21 rfl rfl ?_
  refine Z_if_le 2 rfl (tgt := 17) rfl (by omega) (fun c4 => ?_) (fun c4 => ?_)
  · exfalso; omega
  refine Z_aload_n 3 rfl rfl rfl ?_
  refine Z_dup 4 rfl rfl ?_
  refine Z_get 5 rfl f_T_21 rfl rfl ?_
  refine Z_iconst 6 rfl ?_
  refine Z_isub 7 rfl ?_
  refine Z_put 8 rfl f_T_21 rfl (Nat.le_of_ble_eq_true rfl) (fun _ => ⟨rfl, rfl⟩) (fs' := []) (mem' := eT (t.1, t.2.1, t.2.2.1, t.2.2.2 - 1)) rfl ?_
  refine Z_vret 9 rfl rfl ⟨Nat.le_refl _, Nat.le_refl _⟩ ?_
  exact ⟨rfl, rfl⟩
def tW (t : TT) (k a b c : Int) : TT := (uI t.1 k a, uI t.2.1 k b, uI t.2.2.1 k c, t.2.2.2)
theorem c_T_write (l : Launch) (t : TT) (k a b c : Int) (hk : 0 ≤ k ∧ k < 12) : Con l M_T_write R_T_write 0 0 false [.ref 0, .int (iI k), .int (iI a), .int (iI b), .int (iI c)] (eT t) (zAv (fun m => m = eT (tW t k a b c))) := by
  refine Con.of_Z (by decide) D_T_write (Nat.le_of_ble_eq_true rfl) ?_
  refine Z_aload_n 0 rfl rfl rfl ?_
  refine Z_get 1 rfl f_T_9 rfl rfl ?_
  refine Z_iload_n 2 rfl rfl rfl ?_
  refine Z_iload_n 3 rfl rfl rfl ?_
  refine Z_callSNv (M' := M_C_store) 4 [1] rfl l_T_53 C_C_store (c_C_store l 12 (by omega) t.1 k a (by omega)) ⟨by decide, (zEL.c (Or.inl rfl) zEL.n)⟩ rfl rfl rfl (Nat.le_of_ble_eq_true rfl) ⟨rfl, rfl, Nat.le_of_ble_eq_true rfl, Nat.le_of_ble_eq_true rfl⟩ ⟨Nat.zero_le _, Nat.zero_le _⟩ (fun out hq => ?_)
  obtain rfl := hq
  refine Z_mem (show _ = eT (uI t.1 k a, t.2.1, t.2.2.1, t.2.2.2) by rw [stI_in (by omega)]; rfl) ?_
  refine Z_aload_n 5 rfl rfl rfl ?_
  refine Z_get 6 rfl f_T_15 rfl rfl ?_
  refine Z_iload_n 7 rfl rfl rfl ?_
  refine Z_iload_n 8 rfl rfl rfl ?_
  refine Z_callSNv (M' := M_C_store) 9 [2] rfl l_T_53 C_C_store (c_C_store l 12 (by omega) t.2.1 k b (by omega)) ⟨by decide, (zEL.c (Or.inl rfl) zEL.n)⟩ rfl rfl rfl (Nat.le_of_ble_eq_true rfl) ⟨rfl, rfl, Nat.le_of_ble_eq_true rfl, Nat.le_of_ble_eq_true rfl⟩ ⟨Nat.zero_le _, Nat.zero_le _⟩ (fun out hq => ?_)
  obtain rfl := hq
  refine Z_mem (show _ = eT (uI t.1 k a, uI t.2.1 k b, t.2.2.1, t.2.2.2) by rw [stI_in (by omega)]; rfl) ?_
  refine Z_aload_n 10 rfl rfl rfl ?_
  refine Z_get 11 rfl f_T_18 rfl rfl ?_
  refine Z_iload_n 12 rfl rfl rfl ?_
  refine Z_iload 13 rfl rfl ?_
  refine Z_callSNv (M' := M_C_store) 14 [3] rfl l_T_53 C_C_store (c_C_store l 12 (by omega) t.2.2.1 k c (by omega)) ⟨by decide, (zEL.c (Or.inl rfl) zEL.n)⟩ rfl rfl rfl (Nat.le_of_ble_eq_true rfl) ⟨rfl, rfl, Nat.le_of_ble_eq_true rfl, Nat.le_of_ble_eq_true rfl⟩ ⟨Nat.zero_le _, Nat.zero_le _⟩ (fun out hq => ?_)
  obtain rfl := hq
  refine Z_mem (show _ = eT (tW t k a b c) by rw [stI_in (by omega)]; rfl) ?_
  refine Z_vret 15 rfl rfl ⟨Nat.le_refl _, Nat.le_refl _⟩ ?_
  exact ⟨rfl, rfl⟩
theorem c_T_append (l : Launch) (t : TT) (h : TB t) (a b c : Int) (h0 : t.2.2.2 < 12) : Con l M_T_append R_T_append 0 0 false [.ref 0, .int (iI a), .int (iI b), .int (iI c)] (eT t) (zAv (fun m => m = eT ((tW t t.2.2.2 a b c).1, (tW t t.2.2.2 a b c).2.1, (tW t t.2.2.2 a b c).2.2.1, t.2.2.2 + 1))) := by
  have h1 := h.1
  refine Con.of_Z (by decide) D_T_append (Nat.le_of_ble_eq_true rfl) ?_
  refine Z_aload_n 0 rfl rfl rfl ?_
  refine Z_callVbp (M' := M_T_isFull) 1 [0, 1, 2, 3] rfl l_T_45 C_T_isFull (c_T_isFull l t h) ⟨by decide, (zEL.c (Or.inl rfl) (zEL.c (Or.inl rfl) (zEL.c (Or.inl rfl) (zEL.c (Or.inl rfl) zEL.n))))⟩ (Or.inl ⟨_, _, _, _, rfl, rfl⟩) rfl rfl rfl (Nat.le_of_ble_eq_true rfl) ⟨rfl, rfl, Nat.le_of_ble_eq_true rfl, Nat.le_of_ble_eq_true rfl⟩ ⟨Nat.zero_le _, Nat.zero_le _⟩ ?_
  refine Z_ifb_eq 2 rfl (tgt := 8) rfl (fun c4 => ?_) (fun c4 => ?_)
  rotate_left
  · exfalso; omega
  refine Z_aload_n 4 rfl rfl rfl ?_
  refine Z_aload_n 5 rfl rfl rfl ?_
  refine Z_get 6 rfl f_T_21 rfl rfl ?_
  refine Z_iload_n 7 rfl rfl rfl ?_
  refine Z_iload_n 8 rfl rfl rfl ?_
  refine Z_iload_n 9 rfl rfl rfl ?_
  refine Z_callVv (M' := M_T_write) 10 [0, 1, 2, 3] rfl l_T_49 C_T_write (c_T_write l t t.2.2.2 a b c (by omega)) ⟨by decide, (zEL.c (Or.inl rfl) (zEL.c (Or.inl rfl) (zEL.c (Or.inl rfl) (zEL.c (Or.inl rfl) zEL.n))))⟩ (Or.inl ⟨_, _, _, _, rfl, rfl⟩) rfl rfl rfl (Nat.le_of_ble_eq_true rfl) ⟨rfl, rfl, Nat.le_of_ble_eq_true rfl, Nat.le_of_ble_eq_true rfl⟩ ⟨Nat.zero_le _, Nat.zero_le _⟩ (fun out hq => ?_)
  obtain rfl := hq
  refine Z_mem (show _ = eT (tW t t.2.2.2 a b c) from rfl) ?_
  refine Z_aload_n 11 rfl rfl rfl ?_
  refine Z_dup 12 rfl rfl ?_
  refine Z_get 13 rfl f_T_21 rfl rfl ?_
  refine Z_iconst 14 rfl ?_
  refine Z_iadd 15 rfl ?_
  refine Z_put 16 rfl f_T_21 rfl (Nat.le_of_ble_eq_true rfl) (fun _ => ⟨rfl, rfl⟩) (fs' := []) (mem' := eT ((tW t t.2.2.2 a b c).1, (tW t t.2.2.2 a b c).2.1, (tW t t.2.2.2 a b c).2.2.1, t.2.2.2 + 1)) rfl ?_
  refine Z_vret 17 rfl rfl ⟨Nat.le_refl _, Nat.le_refl _⟩ ?_
  exact ⟨rfl, rfl⟩
def eTT (t u : TT) : List zE := [zO 5 [.ref 1, .ref 2, .ref 3, .int (iI t.2.2.2)], aI 12 t.1, aI 12 t.2.1, aI 12 t.2.2.1, zO 5 [.ref 5, .ref 6, .ref 7, .int (iI u.2.2.2)], aI 12 u.1, aI 12 u.2.1, aI 12 u.2.2.1]
/-- the first twelve of u, else t's -/
def tCp (t u : TT) : TT := (cpI u.1 t.1 12, cpI u.2.1 t.2.1 12, cpI u.2.2.1 t.2.2.1 12, u.2.2.2)
theorem c_T_become (l : Launch) (t u : TT) : Con l M_T_become R_T_become 0 0 false [.ref 0, .ref 4] (eTT t u) (zAv (fun m => m = eTT (tCp t u) u)) := by
  refine Con.of_Z (by decide) D_T_become (Nat.le_of_ble_eq_true rfl) ?_
  refine Z_aload_n 0 rfl rfl rfl ?_
  refine Z_get 1 rfl f_T_9 rfl rfl ?_
  refine Z_aload_n 2 rfl rfl rfl ?_
  refine Z_get 3 rfl f_T_9 rfl rfl ?_
  refine Z_callSNv (M' := M_C_copy) 4 [5, 1] rfl l_T_57 C_C_copy (c_C_copy l 12 (by omega) u.1 t.1) ⟨by decide, (zEL.c (Or.inr ⟨_, _, rfl, rfl, by decide⟩) (zEL.c (Or.inl rfl) zEL.n))⟩ rfl rfl rfl (Nat.le_of_ble_eq_true rfl) ⟨rfl, rfl, Nat.le_of_ble_eq_true rfl, Nat.le_of_ble_eq_true rfl⟩ ⟨Nat.zero_le _, Nat.zero_le _⟩ (fun out hq => ?_)
  obtain rfl := hq
  refine Z_mem (show _ = eTT (cpI u.1 t.1 12, t.2.1, t.2.2.1, t.2.2.2) u from rfl) ?_
  refine Z_aload_n 5 rfl rfl rfl ?_
  refine Z_get 6 rfl f_T_15 rfl rfl ?_
  refine Z_aload_n 7 rfl rfl rfl ?_
  refine Z_get 8 rfl f_T_15 rfl rfl ?_
  refine Z_callSNv (M' := M_C_copy) 9 [6, 2] rfl l_T_57 C_C_copy (c_C_copy l 12 (by omega) u.2.1 t.2.1) ⟨by decide, (zEL.c (Or.inr ⟨_, _, rfl, rfl, by decide⟩) (zEL.c (Or.inl rfl) zEL.n))⟩ rfl rfl rfl (Nat.le_of_ble_eq_true rfl) ⟨rfl, rfl, Nat.le_of_ble_eq_true rfl, Nat.le_of_ble_eq_true rfl⟩ ⟨Nat.zero_le _, Nat.zero_le _⟩ (fun out hq => ?_)
  obtain rfl := hq
  refine Z_mem (show _ = eTT (cpI u.1 t.1 12, cpI u.2.1 t.2.1 12, t.2.2.1, t.2.2.2) u from rfl) ?_
  refine Z_aload_n 10 rfl rfl rfl ?_
  refine Z_get 11 rfl f_T_18 rfl rfl ?_
  refine Z_aload_n 12 rfl rfl rfl ?_
  refine Z_get 13 rfl f_T_18 rfl rfl ?_
  refine Z_callSNv (M' := M_C_copy) 14 [7, 3] rfl l_T_57 C_C_copy (c_C_copy l 12 (by omega) u.2.2.1 t.2.2.1) ⟨by decide, (zEL.c (Or.inr ⟨_, _, rfl, rfl, by decide⟩) (zEL.c (Or.inl rfl) zEL.n))⟩ rfl rfl rfl (Nat.le_of_ble_eq_true rfl) ⟨rfl, rfl, Nat.le_of_ble_eq_true rfl, Nat.le_of_ble_eq_true rfl⟩ ⟨Nat.zero_le _, Nat.zero_le _⟩ (fun out hq => ?_)
  obtain rfl := hq
  refine Z_mem (show _ = eTT (cpI u.1 t.1 12, cpI u.2.1 t.2.1 12, cpI u.2.2.1 t.2.2.1 12, t.2.2.2) u from rfl) ?_
  refine Z_aload_n 15 rfl rfl rfl ?_
  refine Z_aload_n 16 rfl rfl rfl ?_
  refine Z_get 17 rfl f_T_21 rfl rfl ?_
  refine Z_put 18 rfl f_T_21 rfl (Nat.le_of_ble_eq_true rfl) (fun _ => ⟨rfl, rfl⟩) (fs' := []) (mem' := eTT (tCp t u) u) rfl ?_
  refine Z_vret 19 rfl rfl ⟨Nat.le_refl _, Nat.le_refl _⟩ ?_
  exact ⟨rfl, rfl⟩
/-- START for STOP -/
def tk (k : Int) : Int := if k = 2 then 3 else if k = 3 then 2 else k
theorem c_T_turnedKind (l : Launch) (k : Int) (hk : inI k) : Con l M_T_turnedKind R_T_turnedKind 0 0 false [.int (iI k)] [] (zAi (tk k) (fun m => m = [])) := by
  refine Con.of_Z (by decide) D_T_turnedKind (Nat.le_of_ble_eq_true rfl) ?_
  refine Z_iload_n 0 rfl rfl rfl ?_
  refine Z_iconst 1 rfl ?_
  refine Z_icmp_ne 2 rfl (tgt := 9) rfl (by omega) (by omega) (fun c2 => ?_) (fun c2 => ?_)
  · refine Z_iload_n 5 rfl rfl rfl ?_
    refine Z_iconst 6 rfl ?_
    refine Z_icmp_ne 7 rfl (tgt := 18) rfl (by omega) (by omega) (fun c11 => ?_) (fun c11 => ?_)
    · refine Z_iload_n 10 rfl rfl rfl ?_
      refine Z_iret 11 rfl rfl ⟨Nat.le_refl _, Nat.le_refl _⟩ ?_
      exact ⟨by unfold tk; first | rw [if_pos (by omega)] | rw [if_neg (by omega), if_pos (by omega)] | rw [if_neg (by omega), if_neg (by omega)], rfl⟩
    · refine Z_iconst 8 rfl ?_
      refine Z_goto 9 rfl (tgt := 19) rfl ?_
      refine Z_iret 11 rfl rfl ⟨Nat.le_refl _, Nat.le_refl _⟩ ?_
      exact ⟨by unfold tk; first | rw [if_pos (by omega)] | rw [if_neg (by omega), if_pos (by omega)] | rw [if_neg (by omega), if_neg (by omega)], rfl⟩
  · refine Z_iconst 3 rfl ?_
    refine Z_goto 4 rfl (tgt := 19) rfl ?_
    refine Z_iret 11 rfl rfl ⟨Nat.le_refl _, Nat.le_refl _⟩ ?_
    exact ⟨by unfold tk; first | rw [if_pos (by omega)] | rw [if_neg (by omega), if_pos (by omega)] | rw [if_neg (by omega), if_neg (by omega)], rfl⟩
/-- the pieces ahead of a and behind b turned -/
def tnF (n : Int) (g : Int → Int) (F : Int → Int) (a b : Int) : Int → Int := fun i => if (0 ≤ i ∧ i < a) ∨ (b < i ∧ i < n) then g (F (n - 1 - i)) else F i
def tnT (t : TT) (a b : Int) : TT := (tnF t.2.2.2 tk t.1 a b, tnF t.2.2.2 (fun x => x) t.2.1 a b, tnF t.2.2.2 (fun x => -x) t.2.2.1 a b, t.2.2.2)
theorem tnF_in {n : Int} {g F : Int → Int} {a b i : Int} (h : a ≤ i ∧ i ≤ b) : tnF n g F a b i = F i := by
  unfold tnF
  rw [if_neg (by omega)]
theorem tnF_s {n : Int} {g F : Int → Int} {a b : Int} (h0 : 0 ≤ a) (h1 : a ≤ b) (h2 : b = n - 1 - a) : uI (uI (tnF n g F a b) a (g (F b))) b (g (F a)) = tnF n g F (a + 1) (b - 1) := by
  funext i
  unfold uI tnF
  by_cases hb : i = b
  · subst hb
    rw [if_pos rfl, if_pos (by omega), show n - 1 - i = a by omega]
  · rw [if_neg hb]
    by_cases ha : i = a
    · subst ha
      rw [if_pos rfl, if_pos (by omega), show n - 1 - i = b by omega]
    · rw [if_neg ha]
      show (if (0 ≤ i ∧ i < a) ∨ (b < i ∧ i < n) then g (F (n - 1 - i)) else F i) = _
      by_cases hc : (0 ≤ i ∧ i < a) ∨ (b < i ∧ i < n)
      · rw [if_pos hc, if_pos (by omega)]
      · rw [if_neg hc, if_neg (by omega)]
theorem tnF_0 {n : Int} {g F : Int → Int} : tnF n g F 0 (n - 1) = F := by
  funext i
  unfold tnF
  rw [if_neg (by omega)]
theorem tnF_all {n : Int} {g F : Int → Int} {a b : Int} (h0 : 0 ≤ a) (h2 : b = n - 1 - a) (h1 : b < a) (h4 : a ≤ n) : tnF n g F a b = tnF n g F n (-1) := by
  funext i
  unfold tnF
  by_cases hc : (0 ≤ i ∧ i < a) ∨ (b < i ∧ i < n)
  · rw [if_pos hc, if_pos (by omega)]
  · rw [if_neg hc, if_neg (by omega)]
theorem lp_T_turn (l : Launch) (t : TT) (h : TB t) : ∀ (d : Nat) (a b : Int), 0 ≤ a → b = t.2.2.2 - 1 - a → a ≤ b + 2 → b - a + 2 < d → Z (l, M_T_turn, R_T_turn, (0, 0), false, zAv (fun m => m = eT (tnT t t.2.2.2 (-1)))) 0 0 (eT (tnT t a b)) 9 [(0, .ref 0), (1, .int (iI a)), (2, .int (iI b))] [] := by
  have h1 := h.1
  intro d
  induction d with
  | zero => intro a b h2 h3 h4 h5; omega
  | succ d ih =>
    intro a b h2 h3 h4 h5
    refine Z_iload_n 7 rfl rfl rfl ?_
    refine Z_iload_n 8 rfl rfl rfl ?_
    refine Z_icmp_gt 9 rfl (tgt := 81) rfl (by omega) (by omega) (fun c11 => ?_) (fun c11 => ?_)
    · refine Z_vret 47 rfl rfl ⟨Nat.le_refl _, Nat.le_refl _⟩ ?_
      exact ⟨rfl, congrArg eT (by unfold tnT; rw [tnF_all h2 h3 (by omega) (by omega), tnF_all h2 h3 (by omega) (by omega), tnF_all h2 h3 (by omega) (by omega)])⟩
    · refine Z_aload_n 10 rfl rfl rfl ?_
      refine Z_iload_n 11 rfl rfl rfl ?_
      refine Z_callVip (M' := M_T_kindOf) 12 [0, 1, 2, 3] rfl l_T_25 C_T_kindOf (c_T_kindOf l (tnT t a b) a (by omega)) ⟨by decide, (zEL.c (Or.inl rfl) (zEL.c (Or.inl rfl) (zEL.c (Or.inl rfl) (zEL.c (Or.inl rfl) zEL.n))))⟩ (Or.inl ⟨_, _, _, _, rfl, rfl⟩) rfl rfl rfl (Nat.le_of_ble_eq_true rfl) ⟨rfl, rfl, Nat.le_of_ble_eq_true rfl, Nat.le_of_ble_eq_true rfl⟩ ⟨Nat.zero_le _, Nat.zero_le _⟩ ?_
      rw [show (tnT t a b).1 a = t.1 a from tnF_in (F := t.1) (g := tk) (by omega)]
      refine Z_istore_n 13 rfl rfl (Nat.le_of_ble_eq_true rfl) (lv' := [(3, .int _), (0, .ref _), (1, .int _), (2, .int _)]) rfl ?_
      refine Z_aload_n 14 rfl rfl rfl ?_
      refine Z_iload_n 15 rfl rfl rfl ?_
      refine Z_callVip (M' := M_T_longOf) 16 [0, 1, 2, 3] rfl l_T_29 C_T_longOf (c_T_longOf l (tnT t a b) a (by omega)) ⟨by decide, (zEL.c (Or.inl rfl) (zEL.c (Or.inl rfl) (zEL.c (Or.inl rfl) (zEL.c (Or.inl rfl) zEL.n))))⟩ (Or.inl ⟨_, _, _, _, rfl, rfl⟩) rfl rfl rfl (Nat.le_of_ble_eq_true rfl) ⟨rfl, rfl, Nat.le_of_ble_eq_true rfl, Nat.le_of_ble_eq_true rfl⟩ ⟨Nat.zero_le _, Nat.zero_le _⟩ ?_
      rw [show (tnT t a b).2.1 a = t.2.1 a from tnF_in (F := t.2.1) (g := fun x => x) (by omega)]
      refine Z_istore 17 rfl (Nat.le_of_ble_eq_true rfl) (lv' := [(4, .int _), (3, .int _), (0, .ref _), (1, .int _), (2, .int _)]) rfl ?_
      refine Z_aload_n 18 rfl rfl rfl ?_
      refine Z_iload_n 19 rfl rfl rfl ?_
      refine Z_callVip (M' := M_T_riseOf) 20 [0, 1, 2, 3] rfl l_T_32 C_T_riseOf (c_T_riseOf l (tnT t a b) a (by omega)) ⟨by decide, (zEL.c (Or.inl rfl) (zEL.c (Or.inl rfl) (zEL.c (Or.inl rfl) (zEL.c (Or.inl rfl) zEL.n))))⟩ (Or.inl ⟨_, _, _, _, rfl, rfl⟩) rfl rfl rfl (Nat.le_of_ble_eq_true rfl) ⟨rfl, rfl, Nat.le_of_ble_eq_true rfl, Nat.le_of_ble_eq_true rfl⟩ ⟨Nat.zero_le _, Nat.zero_le _⟩ ?_
      rw [show (tnT t a b).2.2.1 a = t.2.2.1 a from tnF_in (F := t.2.2.1) (g := fun x => -x) (by omega)]
      refine Z_istore 21 rfl (Nat.le_of_ble_eq_true rfl) (lv' := [(5, .int _), (4, .int _), (3, .int _), (0, .ref _), (1, .int _), (2, .int _)]) rfl ?_
      refine Z_aload_n 22 rfl rfl rfl ?_
      refine Z_iload_n 23 rfl rfl rfl ?_
      refine Z_aload_n 24 rfl rfl rfl ?_
      refine Z_iload_n 25 rfl rfl rfl ?_
      refine Z_callVip (M' := M_T_kindOf) 26 [0, 1, 2, 3] rfl l_T_25 C_T_kindOf (c_T_kindOf l (tnT t a b) b (by omega)) ⟨by decide, (zEL.c (Or.inl rfl) (zEL.c (Or.inl rfl) (zEL.c (Or.inl rfl) (zEL.c (Or.inl rfl) zEL.n))))⟩ (Or.inl ⟨_, _, _, _, rfl, rfl⟩) rfl rfl rfl (Nat.le_of_ble_eq_true rfl) ⟨rfl, rfl, Nat.le_of_ble_eq_true rfl, Nat.le_of_ble_eq_true rfl⟩ ⟨Nat.zero_le _, Nat.zero_le _⟩ ?_
      rw [show (tnT t a b).1 b = t.1 b from tnF_in (F := t.1) (g := tk) (by omega)]
      refine Z_callSip (M' := M_T_turnedKind) 27 [] rfl l_T_61 C_T_turnedKind (c_T_turnedKind l (t.1 b) (by have := h.2.1 b; omega)) ⟨List.nodup_nil, zEL.n⟩ rfl rfl rfl (Nat.le_of_ble_eq_true rfl) ⟨rfl, rfl, Nat.le_of_ble_eq_true rfl, Nat.le_of_ble_eq_true rfl⟩ ⟨Nat.zero_le _, Nat.zero_le _⟩ ?_
      refine Z_aload_n 28 rfl rfl rfl ?_
      refine Z_iload_n 29 rfl rfl rfl ?_
      refine Z_callVip (M' := M_T_longOf) 30 [0, 1, 2, 3] rfl l_T_29 C_T_longOf (c_T_longOf l (tnT t a b) b (by omega)) ⟨by decide, (zEL.c (Or.inl rfl) (zEL.c (Or.inl rfl) (zEL.c (Or.inl rfl) (zEL.c (Or.inl rfl) zEL.n))))⟩ (Or.inl ⟨_, _, _, _, rfl, rfl⟩) rfl rfl rfl (Nat.le_of_ble_eq_true rfl) ⟨rfl, rfl, Nat.le_of_ble_eq_true rfl, Nat.le_of_ble_eq_true rfl⟩ ⟨Nat.zero_le _, Nat.zero_le _⟩ ?_
      rw [show (tnT t a b).2.1 b = t.2.1 b from tnF_in (F := t.2.1) (g := fun x => x) (by omega)]
      refine Z_aload_n 31 rfl rfl rfl ?_
      refine Z_iload_n 32 rfl rfl rfl ?_
      refine Z_callVip (M' := M_T_riseOf) 33 [0, 1, 2, 3] rfl l_T_32 C_T_riseOf (c_T_riseOf l (tnT t a b) b (by omega)) ⟨by decide, (zEL.c (Or.inl rfl) (zEL.c (Or.inl rfl) (zEL.c (Or.inl rfl) (zEL.c (Or.inl rfl) zEL.n))))⟩ (Or.inl ⟨_, _, _, _, rfl, rfl⟩) rfl rfl rfl (Nat.le_of_ble_eq_true rfl) ⟨rfl, rfl, Nat.le_of_ble_eq_true rfl, Nat.le_of_ble_eq_true rfl⟩ ⟨Nat.zero_le _, Nat.zero_le _⟩ ?_
      rw [show (tnT t a b).2.2.1 b = t.2.2.1 b from tnF_in (F := t.2.2.1) (g := fun x => -x) (by omega)]
      refine Z_ineg 34 rfl ?_
      refine Z_callVv (M' := M_T_write) 35 [0, 1, 2, 3] rfl l_T_49 C_T_write (c_T_write l (tnT t a b) a (tk (t.1 b)) (t.2.1 b) (-t.2.2.1 b) (by omega)) ⟨by decide, (zEL.c (Or.inl rfl) (zEL.c (Or.inl rfl) (zEL.c (Or.inl rfl) (zEL.c (Or.inl rfl) zEL.n))))⟩ (Or.inl ⟨_, _, _, _, rfl, rfl⟩) rfl rfl rfl (Nat.le_of_ble_eq_true rfl) ⟨rfl, rfl, Nat.le_of_ble_eq_true rfl, Nat.le_of_ble_eq_true rfl⟩ ⟨Nat.zero_le _, Nat.zero_le _⟩ (fun out hq => ?_)
      obtain rfl := hq
      refine Z_mem (show _ = eT (tW (tnT t a b) a (tk (t.1 b)) (t.2.1 b) (-t.2.2.1 b)) from rfl) ?_
      refine Z_aload_n 36 rfl rfl rfl ?_
      refine Z_iload_n 37 rfl rfl rfl ?_
      refine Z_iload_n 38 rfl rfl rfl ?_
      refine Z_callSip (M' := M_T_turnedKind) 39 [] rfl l_T_61 C_T_turnedKind (c_T_turnedKind l (t.1 a) (by have := h.2.1 a; omega)) ⟨List.nodup_nil, zEL.n⟩ rfl rfl rfl (Nat.le_of_ble_eq_true rfl) ⟨rfl, rfl, Nat.le_of_ble_eq_true rfl, Nat.le_of_ble_eq_true rfl⟩ ⟨Nat.zero_le _, Nat.zero_le _⟩ ?_
      refine Z_iload 40 rfl rfl ?_
      refine Z_iload 41 rfl rfl ?_
      refine Z_ineg 42 rfl ?_
      refine Z_callVv (M' := M_T_write) 43 [0, 1, 2, 3] rfl l_T_49 C_T_write (c_T_write l (tW (tnT t a b) a (tk (t.1 b)) (t.2.1 b) (-t.2.2.1 b)) b (tk (t.1 a)) (t.2.1 a) (-t.2.2.1 a) (by omega)) ⟨by decide, (zEL.c (Or.inl rfl) (zEL.c (Or.inl rfl) (zEL.c (Or.inl rfl) (zEL.c (Or.inl rfl) zEL.n))))⟩ (Or.inl ⟨_, _, _, _, rfl, rfl⟩) rfl rfl rfl (Nat.le_of_ble_eq_true rfl) ⟨rfl, rfl, Nat.le_of_ble_eq_true rfl, Nat.le_of_ble_eq_true rfl⟩ ⟨Nat.zero_le _, Nat.zero_le _⟩ (fun out hq => ?_)
      obtain rfl := hq
      refine Z_mem (show _ = eT (tnT t (a + 1) (b - 1)) from congrArg eT (by unfold tnT; rw [← tnF_s h2 (by omega) h3, ← tnF_s h2 (by omega) h3, ← tnF_s h2 (by omega) h3]; rfl)) ?_
      refine Z_iinc 44 rfl rfl (Nat.le_of_ble_eq_true rfl) (lv' := [(1, .int _), (5, .int _), (4, .int _), (3, .int _), (0, .ref _), (2, .int _)]) rfl ?_
      refine Z_iinc 45 rfl rfl (Nat.le_of_ble_eq_true rfl) (lv' := [(2, .int _), (1, .int _), (5, .int _), (4, .int _), (3, .int _), (0, .ref _)]) rfl ?_
      refine Z_goto 46 rfl (tgt := 9) rfl ?_
      refine Z_pick [0, 1, 2] (lv' := [(0, .ref _), (1, .int _), (2, .int _)]) rfl ?_
      exact ih (a + 1) (b + -1) (by omega) (by omega) (by omega) (by omega)
theorem c_T_turn (l : Launch) (t : TT) (h : TB t) : Con l M_T_turn R_T_turn 0 0 false [.ref 0] (eT t) (zAv (fun m => m = eT (tnT t t.2.2.2 (-1)))) := by
  have h1 := h.1
  have e : tnT t 0 (t.2.2.2 - 1) = t := by unfold tnT; rw [tnF_0, tnF_0, tnF_0]
  refine Con.of_Z (by decide) D_T_turn (Nat.le_of_ble_eq_true rfl) ?_
  refine Z_iconst 0 rfl ?_
  refine Z_istore_n 1 rfl rfl (Nat.le_of_ble_eq_true rfl) (lv' := [(1, .int _), (0, .ref _)]) rfl ?_
  refine Z_aload_n 2 rfl rfl rfl ?_
  refine Z_get 3 rfl f_T_21 rfl rfl ?_
  refine Z_iconst 4 rfl ?_
  refine Z_isub 5 rfl ?_
  refine Z_istore_n 6 rfl rfl (Nat.le_of_ble_eq_true rfl) (lv' := [(2, .int _), (1, .int _), (0, .ref _)]) rfl ?_
  refine Z_pick [0, 1, 2] (lv' := [(0, .ref _), (1, .int _), (2, .int _)]) rfl ?_
  have h9 := lp_T_turn l t h 16 0 (t.2.2.2 - 1) (by omega) (by omega) (by omega) (by omega)
  rw [e] at h9
  exact h9
theorem c_T_areAlike (l : Launch) (t : TT) (h : TB t) (j k : Int) (hj : 0 ≤ j ∧ j < 12) (hk : 0 ≤ k ∧ k < 12) : Con l M_T_areAlike R_T_areAlike 0 0 false [.ref 0, .int (iI j), .int (iI k)] (eT t) (zAb (t.1 j = t.1 k ∧ t.2.1 j = t.2.1 k ∧ t.2.2.1 j = t.2.2.1 k) (fun m => m = eT t)) := by
  have a1 := h.2.1 j
  have a2 := h.2.1 k
  have b1 := h.2.2.1 j
  have b2 := h.2.2.1 k
  have d1 := h.2.2.2 j
  have d2 := h.2.2.2 k
  refine Con.of_Z (by decide) D_T_areAlike (Nat.le_of_ble_eq_true rfl) ?_
  refine Z_aload_n 0 rfl rfl rfl ?_
  refine Z_iload_n 1 rfl rfl rfl ?_
  refine Z_callVip (M' := M_T_kindOf) 2 [0, 1, 2, 3] rfl l_T_25 C_T_kindOf (c_T_kindOf l t j hj) ⟨by decide, (zEL.c (Or.inl rfl) (zEL.c (Or.inl rfl) (zEL.c (Or.inl rfl) (zEL.c (Or.inl rfl) zEL.n))))⟩ (Or.inl ⟨_, _, _, _, rfl, rfl⟩) rfl rfl rfl (Nat.le_of_ble_eq_true rfl) ⟨rfl, rfl, Nat.le_of_ble_eq_true rfl, Nat.le_of_ble_eq_true rfl⟩ ⟨Nat.zero_le _, Nat.zero_le _⟩ ?_
  refine Z_aload_n 3 rfl rfl rfl ?_
  refine Z_iload_n 4 rfl rfl rfl ?_
  refine Z_callVip (M' := M_T_kindOf) 5 [0, 1, 2, 3] rfl l_T_25 C_T_kindOf (c_T_kindOf l t k hk) ⟨by decide, (zEL.c (Or.inl rfl) (zEL.c (Or.inl rfl) (zEL.c (Or.inl rfl) (zEL.c (Or.inl rfl) zEL.n))))⟩ (Or.inl ⟨_, _, _, _, rfl, rfl⟩) rfl rfl rfl (Nat.le_of_ble_eq_true rfl) ⟨rfl, rfl, Nat.le_of_ble_eq_true rfl, Nat.le_of_ble_eq_true rfl⟩ ⟨Nat.zero_le _, Nat.zero_le _⟩ ?_
  refine Z_icmp_ne 6 rfl (tgt := 43) rfl (by omega) (by omega) (fun c10 => ?_) (fun c10 => ?_)
  · refine Z_iconst 23 rfl ?_
    refine Z_zret 24 rfl rfl rfl ⟨Nat.le_refl _, Nat.le_refl _⟩ ?_
    exact ⟨by first | rw [bI_t (by omega)] | rw [bI_f (by omega)], rfl⟩
  · refine Z_aload_n 7 rfl rfl rfl ?_
    refine Z_iload_n 8 rfl rfl rfl ?_
    refine Z_callVip (M' := M_T_longOf) 9 [0, 1, 2, 3] rfl l_T_29 C_T_longOf (c_T_longOf l t j hj) ⟨by decide, (zEL.c (Or.inl rfl) (zEL.c (Or.inl rfl) (zEL.c (Or.inl rfl) (zEL.c (Or.inl rfl) zEL.n))))⟩ (Or.inl ⟨_, _, _, _, rfl, rfl⟩) rfl rfl rfl (Nat.le_of_ble_eq_true rfl) ⟨rfl, rfl, Nat.le_of_ble_eq_true rfl, Nat.le_of_ble_eq_true rfl⟩ ⟨Nat.zero_le _, Nat.zero_le _⟩ ?_
    refine Z_aload_n 10 rfl rfl rfl ?_
    refine Z_iload_n 11 rfl rfl rfl ?_
    refine Z_callVip (M' := M_T_longOf) 12 [0, 1, 2, 3] rfl l_T_29 C_T_longOf (c_T_longOf l t k hk) ⟨by decide, (zEL.c (Or.inl rfl) (zEL.c (Or.inl rfl) (zEL.c (Or.inl rfl) (zEL.c (Or.inl rfl) zEL.n))))⟩ (Or.inl ⟨_, _, _, _, rfl, rfl⟩) rfl rfl rfl (Nat.le_of_ble_eq_true rfl) ⟨rfl, rfl, Nat.le_of_ble_eq_true rfl, Nat.le_of_ble_eq_true rfl⟩ ⟨Nat.zero_le _, Nat.zero_le _⟩ ?_
    refine Z_icmp_ne 13 rfl (tgt := 43) rfl (by omega) (by omega) (fun c23 => ?_) (fun c23 => ?_)
    · refine Z_iconst 23 rfl ?_
      refine Z_zret 24 rfl rfl rfl ⟨Nat.le_refl _, Nat.le_refl _⟩ ?_
      exact ⟨by first | rw [bI_t (by omega)] | rw [bI_f (by omega)], rfl⟩
    · refine Z_aload_n 14 rfl rfl rfl ?_
      refine Z_iload_n 15 rfl rfl rfl ?_
      refine Z_callVip (M' := M_T_riseOf) 16 [0, 1, 2, 3] rfl l_T_32 C_T_riseOf (c_T_riseOf l t j hj) ⟨by decide, (zEL.c (Or.inl rfl) (zEL.c (Or.inl rfl) (zEL.c (Or.inl rfl) (zEL.c (Or.inl rfl) zEL.n))))⟩ (Or.inl ⟨_, _, _, _, rfl, rfl⟩) rfl rfl rfl (Nat.le_of_ble_eq_true rfl) ⟨rfl, rfl, Nat.le_of_ble_eq_true rfl, Nat.le_of_ble_eq_true rfl⟩ ⟨Nat.zero_le _, Nat.zero_le _⟩ ?_
      refine Z_aload_n 17 rfl rfl rfl ?_
      refine Z_iload_n 18 rfl rfl rfl ?_
      refine Z_callVip (M' := M_T_riseOf) 19 [0, 1, 2, 3] rfl l_T_32 C_T_riseOf (c_T_riseOf l t k hk) ⟨by decide, (zEL.c (Or.inl rfl) (zEL.c (Or.inl rfl) (zEL.c (Or.inl rfl) (zEL.c (Or.inl rfl) zEL.n))))⟩ (Or.inl ⟨_, _, _, _, rfl, rfl⟩) rfl rfl rfl (Nat.le_of_ble_eq_true rfl) ⟨rfl, rfl, Nat.le_of_ble_eq_true rfl, Nat.le_of_ble_eq_true rfl⟩ ⟨Nat.zero_le _, Nat.zero_le _⟩ ?_
      refine Z_icmp_ne 20 rfl (tgt := 43) rfl (by omega) (by omega) (fun c36 => ?_) (fun c36 => ?_)
      · refine Z_iconst 23 rfl ?_
        refine Z_zret 24 rfl rfl rfl ⟨Nat.le_refl _, Nat.le_refl _⟩ ?_
        exact ⟨by first | rw [bI_t (by omega)] | rw [bI_f (by omega)], rfl⟩
      · refine Z_iconst 21 rfl ?_
        refine Z_goto 22 rfl (tgt := 44) rfl ?_
        refine Z_zret 24 rfl rfl rfl ⟨Nat.le_refl _, Nat.le_refl _⟩ ?_
        exact ⟨by first | rw [bI_t (by omega)] | rw [bI_f (by omega)], rfl⟩
/-- j is alike to k -/
def alk (t : TT) (j k : Int) : Prop := t.1 j = t.1 k ∧ t.2.1 j = t.2.1 k ∧ t.2.2.1 j = t.2.2.1 k
/-- none ahead of k is like it -/
def fst1 (t : TT) (k : Int) : Prop := ∀ j, 0 ≤ j → j < k → ¬ alk t j k
theorem lp_T_isFirst (l : Launch) (t : TT) (h : TB t) (k : Int) (hk : 0 ≤ k ∧ k < t.2.2.2) : ∀ (d : Nat) (j : Int), 0 ≤ j → j ≤ k → (∀ i, 0 ≤ i → i < j → ¬ alk t i k) → k - j < d → Z (l, M_T_isFirstOfItsLike, R_T_isFirstOfItsLike, (0, 0), false, zAb (fst1 t k) (fun m => m = eT t)) 0 0 (eT t) 2 [(0, .ref 0), (1, .int (iI k)), (2, .int (iI j))] [] := by
  have h1 := h.1
  intro d
  induction d with
  | zero => intro i h1 h2 h3; omega
  | succ d ih =>
    intro j h2 h3 h4 h5
    refine Z_iload_n 2 rfl rfl rfl ?_
    refine Z_iload_n 3 rfl rfl rfl ?_
    refine Z_icmp_ge 4 rfl (tgt := 32) rfl (by omega) (by omega) (fun c4 => ?_) (fun c4 => ?_)
    · refine Z_iconst 18 rfl ?_
      refine Z_zret 19 rfl rfl rfl ⟨Nat.le_refl _, Nat.le_refl _⟩ ?_
      exact ⟨by rw [bI_t (show fst1 t k from fun i hi1 hi2 => h4 i hi1 (by omega))], rfl⟩
    · refine Z_iload_n 5 rfl rfl rfl ?_
      refine Z_aload_n 6 rfl rfl rfl ?_
      refine Z_get 7 rfl f_T_21 rfl rfl ?_
      refine Z_icmp_ge 8 rfl (tgt := 32) rfl (by omega) (by omega) (fun c12 => ?_) (fun c12 => ?_)
      · exfalso; omega
      refine Z_aload_n 9 rfl rfl rfl ?_
      refine Z_iload_n 10 rfl rfl rfl ?_
      refine Z_iload_n 11 rfl rfl rfl ?_
      refine Z_callVbp (M' := M_T_areAlike) 12 [0, 1, 2, 3] rfl l_T_64 C_T_areAlike (c_T_areAlike l t h j k (by omega) (by omega)) ⟨by decide, (zEL.c (Or.inl rfl) (zEL.c (Or.inl rfl) (zEL.c (Or.inl rfl) (zEL.c (Or.inl rfl) zEL.n))))⟩ (Or.inl ⟨_, _, _, _, rfl, rfl⟩) rfl rfl rfl (Nat.le_of_ble_eq_true rfl) ⟨rfl, rfl, Nat.le_of_ble_eq_true rfl, Nat.le_of_ble_eq_true rfl⟩ ⟨Nat.zero_le _, Nat.zero_le _⟩ ?_
      refine Z_ifb_eq 13 rfl (tgt := 26) rfl (fun c21 => ?_) (fun c21 => ?_)
      · refine Z_iinc 16 rfl rfl (Nat.le_of_ble_eq_true rfl) (lv' := [(2, .int _), (0, .ref _), (1, .int _)]) rfl ?_
        refine Z_goto 17 rfl (tgt := 2) rfl ?_
        refine Z_pick [0, 1, 2] (lv' := [(0, .ref _), (1, .int _), (2, .int _)]) rfl ?_
        exact ih (j + 1) (by omega) (by omega) (fun i hi1 hi2 => by
          by_cases e : i = j
          · rw [e]; exact c21
          · exact h4 i hi1 (by omega)) (by omega)
      · refine Z_iconst 14 rfl ?_
        refine Z_zret 15 rfl rfl rfl ⟨Nat.le_refl _, Nat.le_refl _⟩ ?_
        exact ⟨by rw [bI_f (show ¬ fst1 t k from fun z => z j h2 (by omega) c21)], rfl⟩
theorem c_T_isFirst (l : Launch) (t : TT) (h : TB t) (k : Int) (hk : 0 ≤ k ∧ k < t.2.2.2) : Con l M_T_isFirstOfItsLike R_T_isFirstOfItsLike 0 0 false [.ref 0, .int (iI k)] (eT t) (zAb (fst1 t k) (fun m => m = eT t)) := by
  have h1 := h.1
  refine Con.of_Z (by decide) D_T_isFirstOfItsLike (Nat.le_of_ble_eq_true rfl) ?_
  refine Z_iconst 0 rfl ?_
  refine Z_istore_n 1 rfl rfl (Nat.le_of_ble_eq_true rfl) (lv' := [(2, .int _), (0, .ref _), (1, .int _)]) rfl ?_
  refine Z_pick [0, 1, 2] (lv' := [(0, .ref _), (1, .int _), (2, .int _)]) rfl ?_
  exact lp_T_isFirst l t h k hk 13 0 (by omega) (by omega) (fun i h1 h2 => by omega) (by omega)
/-- without sign -/
def ab (x : Int) : Int := if 0 ≤ x then x else -x
def stp (t : TT) (j k : Int) : Prop := ab (t.2.2.1 k) * t.2.1 j < ab (t.2.2.1 j) * t.2.1 k
theorem ab_bd {x A : Int} (h : -A ≤ x ∧ x ≤ A) : 0 ≤ ab x ∧ ab x ≤ A := by unfold ab; split <;> omega
theorem mul_bd {x y A B : Int} (hx : 0 ≤ x ∧ x ≤ A) (hy : 0 ≤ y ∧ y ≤ B) : 0 ≤ x * y ∧ x * y ≤ A * B := ⟨Int.mul_nonneg hx.1 hy.1, Int.mul_le_mul hx.2 hy.2 hy.1 (by omega)⟩
theorem c_T_isSteeper (l : Launch) (t : TT) (h : TB t) (j k : Int) (hj : 0 ≤ j ∧ j < 12) (hk : 0 ≤ k ∧ k < 12) : Con l M_T_isSteeper R_T_isSteeper 0 0 false [.ref 0, .int (iI j), .int (iI k)] (eT t) (zAb (stp t j k) (fun m => m = eT t)) := by
  have d1 := h.2.2.2 j
  have d2 := h.2.2.2 k
  have m1 := mul_bd (ab_bd d1) (h.2.2.1 k)
  have m2 := mul_bd (ab_bd d2) (h.2.2.1 j)
  refine Con.of_Z (by decide) D_T_isSteeper (Nat.le_of_ble_eq_true rfl) ?_
  refine Z_aload_n 0 rfl rfl rfl ?_
  refine Z_iload_n 1 rfl rfl rfl ?_
  refine Z_callVip (M' := M_T_riseOf) 2 [0, 1, 2, 3] rfl l_T_32 C_T_riseOf (c_T_riseOf l t j hj) ⟨by decide, (zEL.c (Or.inl rfl) (zEL.c (Or.inl rfl) (zEL.c (Or.inl rfl) (zEL.c (Or.inl rfl) zEL.n))))⟩ (Or.inl ⟨_, _, _, _, rfl, rfl⟩) rfl rfl rfl (Nat.le_of_ble_eq_true rfl) ⟨rfl, rfl, Nat.le_of_ble_eq_true rfl, Nat.le_of_ble_eq_true rfl⟩ ⟨Nat.zero_le _, Nat.zero_le _⟩ ?_
  refine Z_absI 3 rfl l_T_68 b_st_absI b_ini_Math b_cd_absI (by omega) (Nat.le_of_ble_eq_true rfl) ⟨Nat.le_of_ble_eq_true rfl, Nat.zero_le _, Nat.zero_le _⟩ ?_
  refine Z_ci (show _ = ab (t.2.2.1 j) from rfl) ?_
  refine Z_aload_n 4 rfl rfl rfl ?_
  refine Z_iload_n 5 rfl rfl rfl ?_
  refine Z_callVip (M' := M_T_longOf) 6 [0, 1, 2, 3] rfl l_T_29 C_T_longOf (c_T_longOf l t k hk) ⟨by decide, (zEL.c (Or.inl rfl) (zEL.c (Or.inl rfl) (zEL.c (Or.inl rfl) (zEL.c (Or.inl rfl) zEL.n))))⟩ (Or.inl ⟨_, _, _, _, rfl, rfl⟩) rfl rfl rfl (Nat.le_of_ble_eq_true rfl) ⟨rfl, rfl, Nat.le_of_ble_eq_true rfl, Nat.le_of_ble_eq_true rfl⟩ ⟨Nat.zero_le _, Nat.zero_le _⟩ ?_
  refine Z_imul 7 rfl ?_
  refine Z_aload_n 8 rfl rfl rfl ?_
  refine Z_iload_n 9 rfl rfl rfl ?_
  refine Z_callVip (M' := M_T_riseOf) 10 [0, 1, 2, 3] rfl l_T_32 C_T_riseOf (c_T_riseOf l t k hk) ⟨by decide, (zEL.c (Or.inl rfl) (zEL.c (Or.inl rfl) (zEL.c (Or.inl rfl) (zEL.c (Or.inl rfl) zEL.n))))⟩ (Or.inl ⟨_, _, _, _, rfl, rfl⟩) rfl rfl rfl (Nat.le_of_ble_eq_true rfl) ⟨rfl, rfl, Nat.le_of_ble_eq_true rfl, Nat.le_of_ble_eq_true rfl⟩ ⟨Nat.zero_le _, Nat.zero_le _⟩ ?_
  refine Z_absI 11 rfl l_T_68 b_st_absI b_ini_Math b_cd_absI (by omega) (Nat.le_of_ble_eq_true rfl) ⟨Nat.le_of_ble_eq_true rfl, Nat.zero_le _, Nat.zero_le _⟩ ?_
  refine Z_ci (show _ = ab (t.2.2.1 k) from rfl) ?_
  refine Z_aload_n 12 rfl rfl rfl ?_
  refine Z_iload_n 13 rfl rfl rfl ?_
  refine Z_callVip (M' := M_T_longOf) 14 [0, 1, 2, 3] rfl l_T_29 C_T_longOf (c_T_longOf l t j hj) ⟨by decide, (zEL.c (Or.inl rfl) (zEL.c (Or.inl rfl) (zEL.c (Or.inl rfl) (zEL.c (Or.inl rfl) zEL.n))))⟩ (Or.inl ⟨_, _, _, _, rfl, rfl⟩) rfl rfl rfl (Nat.le_of_ble_eq_true rfl) ⟨rfl, rfl, Nat.le_of_ble_eq_true rfl, Nat.le_of_ble_eq_true rfl⟩ ⟨Nat.zero_le _, Nat.zero_le _⟩ ?_
  refine Z_imul 15 rfl ?_
  refine Z_icmp_le 16 rfl (tgt := 35) rfl (by omega) (by omega) (fun c28 => ?_) (fun c28 => ?_)
  · refine Z_iconst 19 rfl ?_
    refine Z_zret 20 rfl rfl rfl ⟨Nat.le_refl _, Nat.le_refl _⟩ ?_
    exact ⟨by first | rw [bI_t (show stp t j k by unfold stp; omega)] | rw [bI_f (show ¬ stp t j k by unfold stp; omega)], rfl⟩
  · refine Z_iconst 17 rfl ?_
    refine Z_goto 18 rfl (tgt := 36) rfl ?_
    refine Z_zret 20 rfl rfl rfl ⟨Nat.le_refl _, Nat.le_refl _⟩ ?_
    exact ⟨by first | rw [bI_t (show stp t j k by unfold stp; omega)] | rw [bI_f (show ¬ stp t j k by unfold stp; omega)], rfl⟩
