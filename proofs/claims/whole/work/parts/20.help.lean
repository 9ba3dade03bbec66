/-! CamPieces: pick, store, copy -/
def pkI (N : Nat) (F : Int → Int) (i : Int) : Int := if 0 ≤ i ∧ i < (N : Int) then F i else 0
theorem pkI_in {N : Nat} {F : Int → Int} {i : Int} (h : 0 ≤ i ∧ i < (N : Int)) : pkI N F i = F i := if_pos h
theorem pkI_out {N : Nat} {F : Int → Int} {i : Int} (h : ¬ (0 ≤ i ∧ i < (N : Int))) : pkI N F i = 0 := if_neg h
theorem c_C_pick (l : Launch) (N : Nat) (hN : N < 100000) (F : Int → Int) (i : Int) (hi : inI i) : Con l M_C_pick R_C_pick 0 0 false [.ref 0, .int (iI i)] [aR N F] (zAi (pkI N F i) (fun m => m = [aR N F])) := by
  refine Con.of_Z (by decide) D_C_pick (Nat.le_of_ble_eq_true rfl) ?_
  refine Z_iload_n 0 rfl rfl rfl ?_
  refine Z_if_lt 1 rfl (tgt := 16) rfl (by omega) (fun c1 => ?_) (fun c1 => ?_)
  · refine Z_iconst 10 rfl ?_
    refine Z_iret 11 rfl rfl ⟨Nat.le_refl _, Nat.le_refl _⟩ ?_
    exact ⟨by first | rw [pkI_in (by omega)] | rw [pkI_out (by omega)], rfl⟩
  · refine Z_iload_n 2 rfl rfl rfl ?_
    refine Z_aload_n 3 rfl rfl rfl ?_
    refine Z_alR 4 rfl rfl ?_
    refine Z_icmp_ge 5 rfl (tgt := 16) rfl (by omega) (by omega) (fun c7 => ?_) (fun c7 => ?_)
    · refine Z_iconst 10 rfl ?_
      refine Z_iret 11 rfl rfl ⟨Nat.le_refl _, Nat.le_refl _⟩ ?_
      exact ⟨by first | rw [pkI_in (by omega)] | rw [pkI_out (by omega)], rfl⟩
    · refine Z_aload_n 6 rfl rfl rfl ?_
      refine Z_iload_n 7 rfl rfl rfl ?_
      refine Z_iaR 8 rfl rfl (by omega) (by omega) ?_
      refine Z_goto 9 rfl (tgt := 17) rfl ?_
      refine Z_iret 11 rfl rfl ⟨Nat.le_refl _, Nat.le_refl _⟩ ?_
      exact ⟨by first | rw [pkI_in (by omega)] | rw [pkI_out (by omega)], rfl⟩
theorem pick_in (l : Launch) (N : Nat) (hN : N < 100000) (F : Int → Int) (i : Int) (hi : 0 ≤ i ∧ i < (N : Int)) : Con l M_C_pick R_C_pick 0 0 false [.ref 0, .int (iI i)] [aR N F] (zAi (F i) (fun m => m = [aR N F])) := by
  have h := c_C_pick l N hN F i (by omega)
  rw [pkI_in hi] at h
  exact h
/-- what store does to a row -/
def stI (N : Nat) (F : Int → Int) (i v : Int) : Int → Int := if 0 ≤ i ∧ i < (N : Int) then uI F i v else F
theorem stI_in {N : Nat} {F : Int → Int} {i v : Int} (h : 0 ≤ i ∧ i < (N : Int)) : stI N F i v = uI F i v := if_pos h
theorem stI_out {N : Nat} {F : Int → Int} {i v : Int} (h : ¬ (0 ≤ i ∧ i < (N : Int))) : stI N F i v = F := if_neg h
theorem c_C_store (l : Launch) (N : Nat) (hN : N < 100000) (F : Int → Int) (i v : Int) (hi : inI i) : Con l M_C_store R_C_store 0 0 false [.ref 0, .int (iI i), .int (iI v)] [aI N F] (zAv (fun m => m = [aI N (stI N F i v)])) := by
  refine Con.of_Z (by decide) D_C_store (Nat.le_of_ble_eq_true rfl) ?_
  refine Z_iload_n 0 rfl rfl rfl ?_
  refine Z_if_lt 1 rfl (tgt := 14) rfl (by omega) (fun c1 => ?_) (fun c1 => ?_)
  · refine Z_vret 10 rfl rfl ⟨Nat.le_refl _, Nat.le_refl _⟩ ?_
    exact ⟨rfl, by first | rw [stI_in (by omega)] | rw [stI_out (by omega)]⟩
  · refine Z_iload_n 2 rfl rfl rfl ?_
    refine Z_aload_n 3 rfl rfl rfl ?_
    refine Z_alI 4 rfl rfl ?_
    refine Z_icmp_ge 5 rfl (tgt := 14) rfl (by omega) (by omega) (fun c7 => ?_) (fun c7 => ?_)
    · refine Z_vret 10 rfl rfl ⟨Nat.le_refl _, Nat.le_refl _⟩ ?_
      exact ⟨rfl, by first | rw [stI_in (by omega)] | rw [stI_out (by omega)]⟩
    · refine Z_aload_n 6 rfl rfl rfl ?_
      refine Z_iload_n 7 rfl rfl rfl ?_
      refine Z_iload_n 8 rfl rfl rfl ?_
      refine Z_ias 9 rfl rfl (by omega) (by omega) (mem' := [aI _ _]) rfl ?_
      refine Z_vret 10 rfl rfl ⟨Nat.le_refl _, Nat.le_refl _⟩ ?_
      exact ⟨rfl, by first | rw [stI_in (by omega)] | rw [stI_out (by omega)]⟩
theorem cpI_0 (F G : Int → Int) : cpI F G 0 = G := by
  funext j
  unfold cpI
  rw [if_neg (by omega)]
theorem cpI_s (F G : Int → Int) {i : Int} (hi : 0 ≤ i) : uI (cpI F G i) i (F i) = cpI F G (i + 1) := by
  funext j
  unfold cpI uI
  by_cases h : j = i
  · subst h
    rw [if_pos rfl, if_pos (by omega)]
  · rw [if_neg h]
    by_cases h2 : 0 ≤ j ∧ j < i
    · show (if 0 ≤ j ∧ j < i then F j else G j) = _
      rw [if_pos h2, if_pos (by omega)]
    · show (if 0 ≤ j ∧ j < i then F j else G j) = _
      rw [if_neg h2, if_neg (by omega)]
theorem lp_C_copy (l : Launch) (N : Nat) (hN : N < 100000) (F G : Int → Int) : ∀ (d : Nat) (i : Int), 0 ≤ i → i ≤ (N : Int) → (N : Int) - i < d → Z (l, M_C_copy, R_C_copy, (0, 0), false, zAv (fun m => m = [aR N F, aI N (cpI F G N)])) 0 0 [aR N F, aI N (cpI F G i)] 2 [(0, .ref 0), (1, .ref 1), (2, .int (iI i))] [] := by
  intro d
  induction d with
  | zero => intro i h1 h2 h3; omega
  | succ d ih =>
    intro i h1 h2 h3
    refine Z_iload_n 2 rfl rfl rfl ?_
    refine Z_aload_n 3 rfl rfl rfl ?_
    refine Z_alR 4 rfl rfl ?_
    refine Z_icmp_ge 5 rfl (tgt := 24) rfl (by omega) (by omega) (fun c5 => ?_) (fun c5 => ?_)
    · refine Z_vret 14 rfl rfl ⟨Nat.le_refl _, Nat.le_refl _⟩ ?_
      exact ⟨rfl, by rw [show i = (N : Int) by omega]⟩
    · refine Z_aload_n 6 rfl rfl rfl ?_
      refine Z_iload_n 7 rfl rfl rfl ?_
      refine Z_aload_n 8 rfl rfl rfl ?_
      refine Z_iload_n 9 rfl rfl rfl ?_
      refine Z_callSip (M' := M_C_pick) 10 [0] rfl l_C_148 C_C_pick (pick_in l N hN F i (by omega)) ⟨by decide, (zEL.c (Or.inl rfl) zEL.n)⟩ rfl rfl rfl (Nat.le_of_ble_eq_true rfl) ⟨rfl, rfl, Nat.le_of_ble_eq_true rfl, Nat.le_of_ble_eq_true rfl⟩ ⟨Nat.zero_le _, Nat.zero_le _⟩ ?_
      refine Z_callSv (M' := M_C_store) 11 [1] rfl l_C_155 C_C_store (c_C_store l N hN (cpI F G i) i (F i) (by omega)) ⟨by decide, (zEL.c (Or.inl rfl) zEL.n)⟩ rfl rfl rfl (Nat.le_of_ble_eq_true rfl) ⟨rfl, rfl, Nat.le_of_ble_eq_true rfl, Nat.le_of_ble_eq_true rfl⟩ ⟨Nat.zero_le _, Nat.zero_le _⟩ (fun out hq => ?_)
      obtain rfl := hq
      refine Z_mem (mem' := [aR _ _, aI _ _]) rfl ?_
      rw [stI_in (by omega), cpI_s F G h1]
      refine Z_iinc 12 rfl rfl (Nat.le_of_ble_eq_true rfl) (lv' := [(2, .int _), (0, .ref _), (1, .ref _)]) rfl ?_
      refine Z_goto 13 rfl (tgt := 2) rfl ?_
      refine Z_pick [0, 1, 2] (lv' := [(0, .ref _), (1, .ref _), (2, .int _)]) rfl ?_
      exact ih (i + 1) (by omega) (by omega) (by omega)
theorem c_C_copy (l : Launch) (N : Nat) (hN : N < 100000) (F G : Int → Int) : Con l M_C_copy R_C_copy 0 0 false [.ref 0, .ref 1] [aR N F, aI N G] (zAv (fun m => m = [aR N F, aI N (cpI F G N)])) := by
  refine Con.of_Z (by decide) D_C_copy (Nat.le_of_ble_eq_true rfl) ?_
  refine Z_iconst 0 rfl ?_
  refine Z_istore_n 1 rfl rfl (Nat.le_of_ble_eq_true rfl) (lv' := [(2, .int _), (0, .ref _), (1, .ref _)]) rfl ?_
  refine Z_pick [0, 1, 2] (lv' := [(0, .ref _), (1, .ref _), (2, .int _)]) rfl ?_
  have h := lp_C_copy l N hN F G (N + 1) 0 (by omega) (by omega) (by omega)
  rw [cpI_0] at h
  exact h
