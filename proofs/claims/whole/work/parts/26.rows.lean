/-! Rows: the places of all lists, their sizes -/
def eW (P Zs : Int → Int) : List zE := [zO 3 [.ref 1, .ref 2], aL 120 P, aI 4 Zs]
def ZB (Zs : Int → Int) : Prop := ∀ i, -1 ≤ Zs i ∧ Zs i ≤ 30
def hasPl (Zs : Int → Int) (r i : Int) : Prop := (0 ≤ r ∧ r < 4) ∧ 0 ≤ i ∧ i < Zs r
theorem c_W_mayHave (l : Launch) (P Zs : Int → Int) (r : Int) (hr : inI r) : Con l M_W_mayHave R_W_mayHave 0 0 false [.ref 0, .int (iI r)] (eW P Zs) (zAb (0 ≤ r ∧ r < 4) (fun m => m = eW P Zs)) := by
  refine Con.of_Z (by decide) D_W_mayHave (Nat.le_of_ble_eq_true rfl) ?_
  refine Z_iload_n 0 rfl rfl rfl ?_
  refine Z_if_lt 1 rfl (tgt := 13) rfl (by omega) (fun c1 => ?_) (fun c1 => ?_)
  · refine Z_iconst 7 rfl ?_
    refine Z_zret 8 rfl rfl rfl ⟨Nat.le_refl _, Nat.le_refl _⟩ ?_
    exact ⟨by first | rw [bI_t (by omega)] | rw [bI_f (by omega)], rfl⟩
  · refine Z_iload_n 2 rfl rfl rfl ?_
    refine Z_iconst 3 rfl ?_
    refine Z_icmp_ge 4 rfl (tgt := 13) rfl (by omega) (by omega) (fun c6 => ?_) (fun c6 => ?_)
    · refine Z_iconst 7 rfl ?_
      refine Z_zret 8 rfl rfl rfl ⟨Nat.le_refl _, Nat.le_refl _⟩ ?_
      exact ⟨by first | rw [bI_t (by omega)] | rw [bI_f (by omega)], rfl⟩
    · refine Z_iconst 5 rfl ?_
      refine Z_goto 6 rfl (tgt := 14) rfl ?_
      refine Z_zret 8 rfl rfl rfl ⟨Nat.le_refl _, Nat.le_refl _⟩ ?_
      exact ⟨by first | rw [bI_t (by omega)] | rw [bI_f (by omega)], rfl⟩
theorem c_W_has (l : Launch) (P Zs : Int → Int) (hZ : ZB Zs) (r : Int) (hr : inI r) : Con l M_W_has R_W_has 0 0 false [.ref 0, .int (iI r)] (eW P Zs) (zAb ((0 ≤ r ∧ r < 4) ∧ 0 ≤ Zs r) (fun m => m = eW P Zs)) := by
  have z := hZ r
  refine Con.of_Z (by decide) D_W_has (Nat.le_of_ble_eq_true rfl) ?_
  refine Z_aload_n 0 rfl rfl rfl ?_
  refine Z_iload_n 1 rfl rfl rfl ?_
  refine Z_callVbp (M' := M_W_mayHave) 2 [0, 1, 2] rfl l_W_19 C_W_mayHave (c_W_mayHave l P Zs r hr) ⟨by decide, (zEL.c (Or.inl rfl) (zEL.c (Or.inl rfl) (zEL.c (Or.inl rfl) zEL.n)))⟩ (Or.inl ⟨_, _, _, _, rfl, rfl⟩) rfl rfl rfl (Nat.le_of_ble_eq_true rfl) ⟨rfl, rfl, Nat.le_of_ble_eq_true rfl, Nat.le_of_ble_eq_true rfl⟩ ⟨Nat.zero_le _, Nat.zero_le _⟩ ?_
  refine Z_ifb_eq 3 rfl (tgt := 23) rfl (fun c5 => ?_) (fun c5 => ?_)
  · refine Z_iconst 11 rfl ?_
    refine Z_zret 12 rfl rfl rfl ⟨Nat.le_refl _, Nat.le_refl _⟩ ?_
    exact ⟨by first | rw [bI_t (by omega)] | rw [bI_f (by omega)], rfl⟩
  · refine Z_aload_n 4 rfl rfl rfl ?_
    refine Z_get 5 rfl f_W_15 rfl rfl ?_
    refine Z_iload_n 6 rfl rfl rfl ?_
    refine Z_callSNip (M' := M_C_pick) 7 [2] rfl l_W_23 C_C_pick (pick_in l 4 (by omega) Zs r (by omega)) ⟨by decide, (zEL.c (Or.inr ⟨_, _, rfl, rfl, by decide⟩) zEL.n)⟩ rfl rfl rfl (Nat.le_of_ble_eq_true rfl) ⟨rfl, rfl, Nat.le_of_ble_eq_true rfl, Nat.le_of_ble_eq_true rfl⟩ ⟨Nat.zero_le _, Nat.zero_le _⟩ ?_
    refine Z_if_lt 8 rfl (tgt := 23) rfl (by omega) (fun c16 => ?_) (fun c16 => ?_)
    · refine Z_iconst 11 rfl ?_
      refine Z_zret 12 rfl rfl rfl ⟨Nat.le_refl _, Nat.le_refl _⟩ ?_
      exact ⟨by first | rw [bI_t (by omega)] | rw [bI_f (by omega)], rfl⟩
    · refine Z_iconst 9 rfl ?_
      refine Z_goto 10 rfl (tgt := 24) rfl ?_
      refine Z_zret 12 rfl rfl rfl ⟨Nat.le_refl _, Nat.le_refl _⟩ ?_
      exact ⟨by first | rw [bI_t (by omega)] | rw [bI_f (by omega)], rfl⟩
theorem c_W_hasPlace (l : Launch) (P Zs : Int → Int) (hZ : ZB Zs) (r i : Int) (hr : inI r) (hi : inI i) : Con l M_W_hasPlace R_W_hasPlace 0 0 false [.ref 0, .int (iI r), .int (iI i)] (eW P Zs) (zAb (hasPl Zs r i) (fun m => m = eW P Zs)) := by
  have z := hZ r
  refine Con.of_Z (by decide) D_W_hasPlace (Nat.le_of_ble_eq_true rfl) ?_
  refine Z_aload_n 0 rfl rfl rfl ?_
  refine Z_iload_n 1 rfl rfl rfl ?_
  refine Z_callVbp (M' := M_W_has) 2 [0, 1, 2] rfl l_W_27 C_W_has (c_W_has l P Zs hZ r hr) ⟨by decide, (zEL.c (Or.inl rfl) (zEL.c (Or.inl rfl) (zEL.c (Or.inl rfl) zEL.n)))⟩ (Or.inl ⟨_, _, _, _, rfl, rfl⟩) rfl rfl rfl (Nat.le_of_ble_eq_true rfl) ⟨rfl, rfl, Nat.le_of_ble_eq_true rfl, Nat.le_of_ble_eq_true rfl⟩ ⟨Nat.zero_le _, Nat.zero_le _⟩ ?_
  refine Z_ifb_eq 3 rfl (tgt := 28) rfl (fun c5 => ?_) (fun c5 => ?_)
  · refine Z_iconst 14 rfl ?_
    refine Z_zret 15 rfl rfl rfl ⟨Nat.le_refl _, Nat.le_refl _⟩ ?_
    exact ⟨by unfold hasPl; first | rw [bI_t (by omega)] | rw [bI_f (by omega)], rfl⟩
  · refine Z_iload_n 4 rfl rfl rfl ?_
    refine Z_if_lt 5 rfl (tgt := 28) rfl (by omega) (fun c9 => ?_) (fun c9 => ?_)
    · refine Z_iconst 14 rfl ?_
      refine Z_zret 15 rfl rfl rfl ⟨Nat.le_refl _, Nat.le_refl _⟩ ?_
      exact ⟨by unfold hasPl; first | rw [bI_t (by omega)] | rw [bI_f (by omega)], rfl⟩
    · refine Z_iload_n 6 rfl rfl rfl ?_
      refine Z_aload_n 7 rfl rfl rfl ?_
      refine Z_get 8 rfl f_W_15 rfl rfl ?_
      refine Z_iload_n 9 rfl rfl rfl ?_
      refine Z_callSNip (M' := M_C_pick) 10 [2] rfl l_W_23 C_C_pick (pick_in l 4 (by omega) Zs r (by omega)) ⟨by decide, (zEL.c (Or.inr ⟨_, _, rfl, rfl, by decide⟩) zEL.n)⟩ rfl rfl rfl (Nat.le_of_ble_eq_true rfl) ⟨rfl, rfl, Nat.le_of_ble_eq_true rfl, Nat.le_of_ble_eq_true rfl⟩ ⟨Nat.zero_le _, Nat.zero_le _⟩ ?_
      refine Z_icmp_ge 11 rfl (tgt := 28) rfl (by omega) (by omega) (fun c21 => ?_) (fun c21 => ?_)
      · refine Z_iconst 14 rfl ?_
        refine Z_zret 15 rfl rfl rfl ⟨Nat.le_refl _, Nat.le_refl _⟩ ?_
        exact ⟨by unfold hasPl; first | rw [bI_t (by omega)] | rw [bI_f (by omega)], rfl⟩
      · refine Z_iconst 12 rfl ?_
        refine Z_goto 13 rfl (tgt := 29) rfl ?_
        refine Z_zret 15 rfl rfl rfl ⟨Nat.le_refl _, Nat.le_refl _⟩ ?_
        exact ⟨by unfold hasPl; first | rw [bI_t (by omega)] | rw [bI_f (by omega)], rfl⟩
theorem c_W_hasPlaces (l : Launch) (P Zs : Int → Int) (hZ : ZB Zs) (r i n : Int) (hr : 0 ≤ r ∧ r < 4) (hi : inI i) (hn : 0 ≤ n ∧ n ≤ 30) : Con l M_W_hasPlaces R_W_hasPlaces 0 0 false [.ref 0, .int (iI r), .int (iI i), .int (iI n)] (eW P Zs) (zAb (n = 0 ∨ (0 ≤ i ∧ i ≤ Zs r - n)) (fun m => m = eW P Zs)) := by
  have z := hZ r
  refine Con.of_Z (by decide) D_W_hasPlaces (Nat.le_of_ble_eq_true rfl) ?_
  refine Z_iload_n 0 rfl rfl rfl ?_
  refine Z_if_eq 1 rfl (tgt := 22) rfl (by omega) (fun c1 => ?_) (fun c1 => ?_)
  · refine Z_iconst 12 rfl ?_
    refine Z_goto 13 rfl (tgt := 27) rfl ?_
    refine Z_zret 15 rfl rfl rfl ⟨Nat.le_refl _, Nat.le_refl _⟩ ?_
    exact ⟨by first | rw [bI_t (by omega)] | rw [bI_f (by omega)], rfl⟩
  · refine Z_iload_n 2 rfl rfl rfl ?_
    refine Z_if_lt 3 rfl (tgt := 26) rfl (by omega) (fun c5 => ?_) (fun c5 => ?_)
    · refine Z_iconst 14 rfl ?_
      refine Z_zret 15 rfl rfl rfl ⟨Nat.le_refl _, Nat.le_refl _⟩ ?_
      exact ⟨by first | rw [bI_t (by omega)] | rw [bI_f (by omega)], rfl⟩
    · refine Z_iload_n 4 rfl rfl rfl ?_
      refine Z_aload_n 5 rfl rfl rfl ?_
      refine Z_get 6 rfl f_W_15 rfl rfl ?_
      refine Z_iload_n 7 rfl rfl rfl ?_
      refine Z_callSNip (M' := M_C_pick) 8 [2] rfl l_W_23 C_C_pick (pick_in l 4 (by omega) Zs r (by omega)) ⟨by decide, (zEL.c (Or.inr ⟨_, _, rfl, rfl, by decide⟩) zEL.n)⟩ rfl rfl rfl (Nat.le_of_ble_eq_true rfl) ⟨rfl, rfl, Nat.le_of_ble_eq_true rfl, Nat.le_of_ble_eq_true rfl⟩ ⟨Nat.zero_le _, Nat.zero_le _⟩ ?_
      refine Z_iload_n 9 rfl rfl rfl ?_
      refine Z_isub 10 rfl ?_
      refine Z_icmp_gt 11 rfl (tgt := 26) rfl (by omega) (by omega) (fun c19 => ?_) (fun c19 => ?_)
      · refine Z_iconst 14 rfl ?_
        refine Z_zret 15 rfl rfl rfl ⟨Nat.le_refl _, Nat.le_refl _⟩ ?_
        exact ⟨by first | rw [bI_t (by omega)] | rw [bI_f (by omega)], rfl⟩
      · refine Z_iconst 12 rfl ?_
        refine Z_goto 13 rfl (tgt := 27) rfl ?_
        refine Z_zret 15 rfl rfl rfl ⟨Nat.le_refl _, Nat.le_refl _⟩ ?_
        exact ⟨by first | rw [bI_t (by omega)] | rw [bI_f (by omega)], rfl⟩
def NOv : Int := -9223372036854775808
def rdP (P Zs : Int → Int) (r i : Int) : Int := if (0 ≤ r ∧ r < 4) ∧ 0 ≤ i ∧ i < Zs r then P (r * 30 + i) else NOv
def wrP (P Zs : Int → Int) (r i v : Int) : Int → Int := if (0 ≤ r ∧ r < 4) ∧ 0 ≤ i ∧ i < Zs r then uI P (r * 30 + i) v else P
theorem c_W_read (l : Launch) (P Zs : Int → Int) (hZ : ZB Zs) (r i : Int) (hr : 0 ≤ r ∧ r < 4) (hi : inI i) : Con l M_W_read R_W_read 0 0 false [.ref 0, .int (iI r), .int (iI i)] (eW P Zs) (zAl (rdP P Zs r i) (fun m => m = eW P Zs)) := by
  have z := hZ r
  refine Con.of_Z (by decide) D_W_read (Nat.le_of_ble_eq_true rfl) ?_
  refine Z_iload_n 0 rfl rfl rfl ?_
  refine Z_bipush 1 rfl rfl ?_
  refine Z_imul 2 rfl ?_
  refine Z_iload_n 3 rfl rfl rfl ?_
  refine Z_iadd 4 rfl ?_
  refine Z_istore_n 5 rfl rfl (Nat.le_of_ble_eq_true rfl) (lv' := [(3, .int _), (0, .ref _), (1, .int _), (2, .int _)]) rfl ?_
  refine Z_aload_n 6 rfl rfl rfl ?_
  refine Z_iload_n 7 rfl rfl rfl ?_
  refine Z_iload_n 8 rfl rfl rfl ?_
  refine Z_callVbp (M' := M_W_hasPlace) 9 [0, 1, 2] rfl l_W_38 C_W_hasPlace (c_W_hasPlace l P Zs hZ r i (by omega) hi) ⟨by decide, (zEL.c (Or.inl rfl) (zEL.c (Or.inl rfl) (zEL.c (Or.inl rfl) zEL.n)))⟩ (Or.inl ⟨_, _, _, _, rfl, rfl⟩) rfl rfl rfl (Nat.le_of_ble_eq_true rfl) ⟨rfl, rfl, Nat.le_of_ble_eq_true rfl, Nat.le_of_ble_eq_true rfl⟩ ⟨Nat.zero_le _, Nat.zero_le _⟩ ?_
  refine Z_ifb_eq 10 rfl (tgt := 38) rfl (fun c13 => ?_) (fun c13 => ?_)
  · refine Z_ldc2 23 rfl k_W_42 (c := -9223372036854775808) rfl ?_
    refine Z_lret 24 rfl rfl ⟨Nat.le_refl _, Nat.le_refl _⟩ ?_
    exact ⟨by unfold rdP; first | rw [if_pos (show (0 ≤ r ∧ r < 4) ∧ 0 ≤ i ∧ i < Zs r from c13)] | rw [if_neg (show ¬ ((0 ≤ r ∧ r < 4) ∧ 0 ≤ i ∧ i < Zs r) from c13)]; rfl, rfl⟩
  · refine Z_iload_n 11 rfl rfl rfl ?_
    refine Z_if_lt 12 rfl (tgt := 38) rfl (by unfold hasPl at c13; omega) (fun c17 => ?_) (fun c17 => ?_)
    · exfalso; unfold hasPl at c13; omega
    refine Z_iload_n 13 rfl rfl rfl ?_
    refine Z_aload_n 14 rfl rfl rfl ?_
    refine Z_get 15 rfl f_W_9 rfl rfl ?_
    refine Z_alL 16 rfl rfl ?_
    refine Z_icmp_ge 17 rfl (tgt := 38) rfl (by unfold hasPl at c13; omega) (by omega) (fun c26 => ?_) (fun c26 => ?_)
    · exfalso; unfold hasPl at c13; omega
    refine Z_aload_n 18 rfl rfl rfl ?_
    refine Z_get 19 rfl f_W_9 rfl rfl ?_
    refine Z_iload_n 20 rfl rfl rfl ?_
    refine Z_la 21 rfl rfl (by unfold hasPl at c13; omega) (by decide) ?_
    refine Z_goto 22 rfl (tgt := 41) rfl ?_
    refine Z_lret 24 rfl rfl ⟨Nat.le_refl _, Nat.le_refl _⟩ ?_
    exact ⟨by unfold rdP; first | rw [if_pos (show (0 ≤ r ∧ r < 4) ∧ 0 ≤ i ∧ i < Zs r from c13)] | rw [if_neg (show ¬ ((0 ≤ r ∧ r < 4) ∧ 0 ≤ i ∧ i < Zs r) from c13)]; rfl, rfl⟩
theorem c_W_write (l : Launch) (P Zs : Int → Int) (hZ : ZB Zs) (r i v : Int) (hr : 0 ≤ r ∧ r < 4) (hi : inI i) : Con l M_W_write R_W_write 0 0 false [.ref 0, .int (iI r), .int (iI i), .long (lI v)] (eW P Zs) (zAv (fun m => m = eW (wrP P Zs r i v) Zs)) := by
  have z := hZ r
  refine Con.of_Z (by decide) D_W_write (Nat.le_of_ble_eq_true rfl) ?_
  refine Z_iload_n 0 rfl rfl rfl ?_
  refine Z_bipush 1 rfl rfl ?_
  refine Z_imul 2 rfl ?_
  refine Z_iload_n 3 rfl rfl rfl ?_
  refine Z_iadd 4 rfl ?_
  refine Z_istore 5 rfl (Nat.le_of_ble_eq_true rfl) (lv' := [(5, .int _), (0, .ref _), (1, .int _), (2, .int _), (3, .long _)]) rfl ?_
  refine Z_aload_n 6 rfl rfl rfl ?_
  refine Z_iload_n 7 rfl rfl rfl ?_
  refine Z_iload_n 8 rfl rfl rfl ?_
  refine Z_callVbp (M' := M_W_hasPlace) 9 [0, 1, 2] rfl l_W_38 C_W_hasPlace (c_W_hasPlace l P Zs hZ r i (by omega) hi) ⟨by decide, (zEL.c (Or.inl rfl) (zEL.c (Or.inl rfl) (zEL.c (Or.inl rfl) zEL.n)))⟩ (Or.inl ⟨_, _, _, _, rfl, rfl⟩) rfl rfl rfl (Nat.le_of_ble_eq_true rfl) ⟨rfl, rfl, Nat.le_of_ble_eq_true rfl, Nat.le_of_ble_eq_true rfl⟩ ⟨Nat.zero_le _, Nat.zero_le _⟩ ?_
  refine Z_ifb_eq 10 rfl (tgt := 40) rfl (fun c14 => ?_) (fun c14 => ?_)
  · refine Z_vret 23 rfl rfl ⟨Nat.le_refl _, Nat.le_refl _⟩ ?_
    exact ⟨rfl, by unfold wrP; first | rw [if_pos (show (0 ≤ r ∧ r < 4) ∧ 0 ≤ i ∧ i < Zs r from c14)] | rw [if_neg (show ¬ ((0 ≤ r ∧ r < 4) ∧ 0 ≤ i ∧ i < Zs r) from c14)]⟩
  · refine Z_iload 11 rfl rfl ?_
    refine Z_if_lt 12 rfl (tgt := 40) rfl (by unfold hasPl at c14; omega) (fun c19 => ?_) (fun c19 => ?_)
    · exfalso; unfold hasPl at c14; omega
    refine Z_iload 13 rfl rfl ?_
    refine Z_aload_n 14 rfl rfl rfl ?_
    refine Z_get 15 rfl f_W_9 rfl rfl ?_
    refine Z_alL 16 rfl rfl ?_
    refine Z_icmp_ge 17 rfl (tgt := 40) rfl (by unfold hasPl at c14; omega) (by omega) (fun c29 => ?_) (fun c29 => ?_)
    · exfalso; unfold hasPl at c14; omega
    refine Z_aload_n 18 rfl rfl rfl ?_
    refine Z_get 19 rfl f_W_9 rfl rfl ?_
    refine Z_iload 20 rfl rfl ?_
    refine Z_lload_n 21 rfl rfl rfl ?_
    refine Z_las 22 rfl rfl (by unfold hasPl at c14; omega) (by decide) (mem' := eW (uI P (r * 30 + i) v) Zs) rfl ?_
    refine Z_vret 23 rfl rfl ⟨Nat.le_refl _, Nat.le_refl _⟩ ?_
    exact ⟨rfl, by unfold wrP; first | rw [if_pos (show (0 ≤ r ∧ r < 4) ∧ 0 ≤ i ∧ i < Zs r from c14)] | rw [if_neg (show ¬ ((0 ≤ r ∧ r < 4) ∧ 0 ≤ i ∧ i < Zs r) from c14)]⟩
/-- a row of n noughts -/
def zer (P : Int → Int) (r n : Int) : Int → Int := fun j => if r * 30 ≤ j ∧ j < r * 30 + n then 0 else P j
theorem zer_0 (P : Int → Int) (r : Int) : zer P r 0 = P := by
  funext j
  unfold zer
  rw [if_neg (by omega)]
theorem zer_s (P Zs : Int → Int) (r i : Int) (hr : 0 ≤ r ∧ r < 4) (hi : 0 ≤ i ∧ i < Zs r) : wrP (zer P r i) Zs r i 0 = zer P r (i + 1) := by
  unfold wrP
  rw [if_pos ⟨hr, hi⟩]
  funext j
  unfold uI zer
  by_cases h : j = r * 30 + i
  · rw [if_pos h, if_pos (by omega)]
  · rw [if_neg h]
    by_cases h2 : r * 30 ≤ j ∧ j < r * 30 + i
    · rw [if_pos h2, if_pos (by omega)]
    · rw [if_neg h2, if_neg (by omega)]
theorem ZB_u {Zs : Int → Int} (h : ZB Zs) {r n : Int} (hn : 0 ≤ n ∧ n ≤ 30) : ZB (uI Zs r n) := by
  intro i
  unfold uI
  split
  · omega
  · exact h i
theorem lp_W_make (l : Launch) (P Zs : Int → Int) (hZ : ZB Zs) (r n : Int) (hr : 0 ≤ r ∧ r < 4) (hn : 0 ≤ n ∧ n ≤ 30) (hz : Zs r = n) : ∀ (d : Nat) (i : Int), 0 ≤ i → i ≤ n → n - i < d → Z (l, M_W_make, R_W_make, (0, 0), false, zAv (fun m => m = eW (zer P r n) Zs)) 0 0 (eW (zer P r i) Zs) 11 [(0, .ref 0), (1, .int (iI r)), (2, .int (iI n)), (3, .int (iI i))] [] := by
  intro d
  induction d with
  | zero => intro i h1 h2 h3; omega
  | succ d ih =>
    intro i h1 h2 h3
    refine Z_iload_n 7 rfl rfl rfl ?_
    refine Z_iload_n 8 rfl rfl rfl ?_
    refine Z_icmp_ge 9 rfl (tgt := 35) rfl (by omega) (by omega) (fun c13 => ?_) (fun c13 => ?_)
    · refine Z_vret 20 rfl rfl ⟨Nat.le_refl _, Nat.le_refl _⟩ ?_
      exact ⟨rfl, by rw [show i = n by omega]⟩
    · refine Z_iload_n 10 rfl rfl rfl ?_
      refine Z_bipush 11 rfl rfl ?_
      refine Z_icmp_ge 12 rfl (tgt := 35) rfl (by omega) (by omega) (fun c19 => ?_) (fun c19 => ?_)
      · refine Z_vret 20 rfl rfl ⟨Nat.le_refl _, Nat.le_refl _⟩ ?_
        exact ⟨rfl, by rw [show i = n by omega]⟩
      · refine Z_aload_n 13 rfl rfl rfl ?_
        refine Z_iload_n 14 rfl rfl rfl ?_
        refine Z_iload_n 15 rfl rfl rfl ?_
        refine Z_lconst 16 rfl ?_
        refine Z_callVv (M' := M_W_write) 17 [0, 1, 2] rfl l_W_34 C_W_write (c_W_write l (zer P r i) Zs hZ r i 0 hr (by omega)) ⟨by decide, (zEL.c (Or.inl rfl) (zEL.c (Or.inl rfl) (zEL.c (Or.inl rfl) zEL.n)))⟩ (Or.inl ⟨_, _, _, _, rfl, rfl⟩) rfl rfl rfl (Nat.le_of_ble_eq_true rfl) ⟨rfl, rfl, Nat.le_of_ble_eq_true rfl, Nat.le_of_ble_eq_true rfl⟩ ⟨Nat.zero_le _, Nat.zero_le _⟩ (fun out hq => ?_)
        obtain rfl := hq
        refine Z_mem (show _ = eW (zer P r (i + 1)) Zs by rw [← zer_s P Zs r i hr (by omega)]; rfl) ?_
        refine Z_iinc 18 rfl rfl (Nat.le_of_ble_eq_true rfl) (lv' := [(3, .int _), (0, .ref _), (1, .int _), (2, .int _)]) rfl ?_
        refine Z_goto 19 rfl (tgt := 11) rfl ?_
        refine Z_pick [0, 1, 2, 3] (lv' := [(0, .ref _), (1, .int _), (2, .int _), (3, .int _)]) rfl ?_
        exact ih (i + 1) (by omega) (by omega) (by omega)
theorem c_W_make (l : Launch) (P Zs : Int → Int) (hZ : ZB Zs) (r n : Int) (hr : 0 ≤ r ∧ r < 4) (hn : 0 ≤ n ∧ n ≤ 30) : Con l M_W_make R_W_make 0 0 false [.ref 0, .int (iI r), .int (iI n)] (eW P Zs) (zAv (fun m => m = eW (zer P r n) (uI Zs r n))) := by
  refine Con.of_Z (by decide) D_W_make (Nat.le_of_ble_eq_true rfl) ?_
  refine Z_aload_n 0 rfl rfl rfl ?_
  refine Z_get 1 rfl f_W_15 rfl rfl ?_
  refine Z_iload_n 2 rfl rfl rfl ?_
  refine Z_iload_n 3 rfl rfl rfl ?_
  refine Z_callSNv (M' := M_C_store) 4 [2] rfl l_W_30 C_C_store (c_C_store l 4 (by omega) Zs r n (by omega)) ⟨by decide, (zEL.c (Or.inl rfl) zEL.n)⟩ rfl rfl rfl (Nat.le_of_ble_eq_true rfl) ⟨rfl, rfl, Nat.le_of_ble_eq_true rfl, Nat.le_of_ble_eq_true rfl⟩ ⟨Nat.zero_le _, Nat.zero_le _⟩ (fun out hq => ?_)
  obtain rfl := hq
  refine Z_mem (show _ = eW P (uI Zs r n) by rw [stI_in (by omega)]; rfl) ?_
  refine Z_iconst 5 rfl ?_
  refine Z_istore_n 6 rfl rfl (Nat.le_of_ble_eq_true rfl) (lv' := [(3, .int _), (0, .ref _), (1, .int _), (2, .int _)]) rfl ?_
  refine Z_pick [0, 1, 2, 3] (lv' := [(0, .ref _), (1, .int _), (2, .int _), (3, .int _)]) rfl ?_
  have h9 := lp_W_make l P (uI Zs r n) (ZB_u hZ hn) r n hr hn (uI_s Zs r n) 31 0 (by omega) (by omega) (by omega)
  rw [zer_0] at h9
  exact h9
