/-! the model: pieces, settings, angles, joins -/
section M2
variable (l : Launch) (p : MP) (he fa li sl be ov av bl : Int) (kw sm : Int → Int) (ma mf mw : Int) (cj : TT)
theorem c_M_piece (h : MV p) (k n r : Int) (hk : inI k) (hn : inI n) (hr : inI r) : Con l M_M_piece R_M_piece 0 0 false [.ref 0, .int (iI k), .int (iI n), .int (iI r)] (eM p he fa li sl be ov av bl kw sm ma mf mw cj) (zAi (pieceF p.t k n r).1 (fun m => m = eM ((pieceF p.t k n r).2, p.2) he fa li sl be ov av bl kw sm ma mf mw cj)) := by
  have h1 := h.1.1.1
  have h2 := tot_bd h.1.1
  refine Con.of_Z (by decide) D_M_piece (Nat.le_of_ble_eq_true rfl) ?_
  refine Z_iload_n 0 rfl rfl rfl ?_
  refine Z_i2l 1 rfl (by omega) ?_
  refine Z_lconst 2 rfl ?_
  refine Z_ldc2 3 rfl k_M_96 (c := 5) rfl ?_
  refine Z_callSbp (M' := M_M_in) 4 [] rfl l_M_80 C_M_in (c_M_in l _ _ _ (by omega) (by omega) (by omega)) ⟨List.nodup_nil, zEL.n⟩ rfl rfl rfl (Nat.le_of_ble_eq_true rfl) ⟨rfl, rfl, Nat.le_of_ble_eq_true rfl, Nat.le_of_ble_eq_true rfl⟩ ⟨Nat.zero_le _, Nat.zero_le _⟩ ?_
  refine Z_ifb_ne 5 rfl (tgt := 14) rfl (fun c9 => ?_) (fun c9 => ?_)
  · refine Z_iload_n 8 rfl rfl rfl ?_
    refine Z_i2l 9 rfl (by omega) ?_
    refine Z_lconst 10 rfl ?_
    refine Z_ldc2 11 rfl k_M_98 (c := 360) rfl ?_
    refine Z_callSbp (M' := M_M_in) 12 [] rfl l_M_80 C_M_in (c_M_in l _ _ _ (by omega) (by omega) (by omega)) ⟨List.nodup_nil, zEL.n⟩ rfl rfl rfl (Nat.le_of_ble_eq_true rfl) ⟨rfl, rfl, Nat.le_of_ble_eq_true rfl, Nat.le_of_ble_eq_true rfl⟩ ⟨Nat.zero_le _, Nat.zero_le _⟩ ?_
    refine Z_ifb_eq 13 rfl (tgt := 34) rfl (fun c23 => ?_) (fun c23 => ?_)
    · try rw [u31] at c31
      refine Z_bipush 18 rfl rfl ?_
      refine Z_iret 19 rfl rfl ⟨Nat.le_refl _, Nat.le_refl _⟩ ?_
      exact ⟨by unfold pieceF mb; repeat (first | rw [cif_t (by first | assumption | omega)] | rw [cif_f (by first | assumption | omega)]), by unfold pieceF mb; (repeat (first | rw [cif_t (by first | assumption | omega)] | rw [cif_f (by first | assumption | omega)])) <;> rfl⟩
    · refine Z_iload_n 14 rfl rfl rfl ?_
      refine Z_iload_n 15 rfl rfl rfl ?_
      refine Z_callSbp (M' := M_M_isRise) 16 [] rfl l_M_100 C_M_isRise (c_M_isRise l k r hk hr) ⟨List.nodup_nil, zEL.n⟩ rfl rfl rfl (Nat.le_of_ble_eq_true rfl) ⟨rfl, rfl, Nat.le_of_ble_eq_true rfl, Nat.le_of_ble_eq_true rfl⟩ ⟨Nat.zero_le _, Nat.zero_le _⟩ ?_
      have u31 : isR k r ↔ (k = 0 ∧ r = 0) ∨ (k ≠ 0 ∧ (-99 ≤ r ∧ r ≤ 99) ∧ r ≠ 0) := Iff.rfl
      refine Z_ifb_ne 17 rfl (tgt := 37) rfl (fun c31 => ?_) (fun c31 => ?_)
      · rw [u31] at c31
        refine Z_aload_n 20 rfl rfl rfl ?_
        refine Z_get 21 rfl f_M_77 rfl rfl ?_
        refine Z_bipush 22 rfl rfl ?_
        refine Z_icmp_ne 23 rfl (tgt := 49) rfl (by omega) (by omega) (fun c43 => ?_) (fun c43 => ?_)
        · refine Z_aload_n 26 rfl rfl rfl ?_
          refine Z_callVip (M' := M_M_total) 27 isM rfl l_M_88 C_M_total (c_M_total l p he fa li sl be ov av bl kw sm ma mf mw cj h.1.1) (emM ..) (Or.inl ⟨_, _, _, _, rfl, rfl⟩) rfl rfl rfl (Nat.le_of_ble_eq_true rfl) ⟨rfl, rfl, Nat.le_of_ble_eq_true rfl, Nat.le_of_ble_eq_true rfl⟩ ⟨Nat.zero_le _, Nat.zero_le _⟩ ?_
          refine Z_iload_n 28 rfl rfl rfl ?_
          refine Z_iadd 29 rfl ?_
          refine Z_sipush 30 rfl rfl ?_
          refine Z_icmp_le 31 rfl (tgt := 64) rfl (by omega) (by omega) (fun c58 => ?_) (fun c58 => ?_)
          · refine Z_aload_n 34 rfl rfl rfl ?_
            refine Z_get 35 rfl f_M_11 rfl rfl ?_
            refine Z_aload_n 36 rfl rfl rfl ?_
            refine Z_get 37 rfl f_M_77 rfl rfl ?_
            refine Z_iload_n 38 rfl rfl rfl ?_
            refine Z_ias 39 rfl rfl (by omega) (by decide) (mem' := eM ((uI p.t.1 p.t.2.2.2 k, p.t.2), p.2) he fa li sl be ov av bl kw sm ma mf mw cj) rfl ?_
            refine Z_aload_n 40 rfl rfl rfl ?_
            refine Z_get 41 rfl f_M_15 rfl rfl ?_
            refine Z_aload_n 42 rfl rfl rfl ?_
            refine Z_get 43 rfl f_M_77 rfl rfl ?_
            refine Z_iload_n 44 rfl rfl rfl ?_
            refine Z_ias 45 rfl rfl (show 0 ≤ p.t.2.2.2 ∧ p.t.2.2.2 < 13 by omega) (by decide) (mem' := eM ((uI p.t.1 p.t.2.2.2 k, uI p.t.2.1 p.t.2.2.2 n, p.t.2.2), p.2) he fa li sl be ov av bl kw sm ma mf mw cj) rfl ?_
            refine Z_aload_n 46 rfl rfl rfl ?_
            refine Z_get 47 rfl f_M_18 rfl rfl ?_
            refine Z_aload_n 48 rfl rfl rfl ?_
            refine Z_get 49 rfl f_M_77 rfl rfl ?_
            refine Z_iload_n 50 rfl rfl rfl ?_
            refine Z_ias 51 rfl rfl (show 0 ≤ p.t.2.2.2 ∧ p.t.2.2.2 < 13 by omega) (by decide) (mem' := eM ((uI p.t.1 p.t.2.2.2 k, uI p.t.2.1 p.t.2.2.2 n, uI p.t.2.2.1 p.t.2.2.2 r, p.t.2.2.2), p.2) he fa li sl be ov av bl kw sm ma mf mw cj) rfl ?_
            refine Z_aload_n 52 rfl rfl rfl ?_
            refine Z_dup 53 rfl rfl ?_
            refine Z_get 54 rfl f_M_77 rfl rfl ?_
            refine Z_iconst 55 rfl ?_
            refine Z_iadd 56 rfl ?_
            refine Z_put 57 rfl f_M_77 rfl (Nat.le_of_ble_eq_true rfl) (fun _ => ⟨rfl, rfl⟩) (fs' := []) (mem' := eM (tAp p.t k n r, p.2) he fa li sl be ov av bl kw sm ma mf mw cj) rfl ?_
            refine Z_aload_n 58 rfl rfl rfl ?_
            refine Z_get 59 rfl f_M_77 rfl rfl ?_
            refine Z_iconst 60 rfl ?_
            refine Z_isub 61 rfl ?_
            refine Z_ci (show _ = p.t.2.2.2 by show p.t.2.2.2 + 1 - 1 = _; omega) ?_
            refine Z_iret 62 rfl rfl ⟨Nat.le_refl _, Nat.le_refl _⟩ ?_
            exact ⟨by unfold pieceF mb; repeat (first | rw [cif_t (by first | assumption | omega)] | rw [cif_f (by first | assumption | omega)]), by unfold pieceF mb; (repeat (first | rw [cif_t (by first | assumption | omega)] | rw [cif_f (by first | assumption | omega)])) <;> rfl⟩
          · refine Z_bipush 32 rfl rfl ?_
            refine Z_iret 33 rfl rfl ⟨Nat.le_refl _, Nat.le_refl _⟩ ?_
            exact ⟨by unfold pieceF mb; repeat (first | rw [cif_t (by first | assumption | omega)] | rw [cif_f (by first | assumption | omega)]), by unfold pieceF mb; (repeat (first | rw [cif_t (by first | assumption | omega)] | rw [cif_f (by first | assumption | omega)])) <;> rfl⟩
        · refine Z_bipush 24 rfl rfl ?_
          refine Z_iret 25 rfl rfl ⟨Nat.le_refl _, Nat.le_refl _⟩ ?_
          exact ⟨by unfold pieceF mb; repeat (first | rw [cif_t (by first | assumption | omega)] | rw [cif_f (by first | assumption | omega)]), by unfold pieceF mb; (repeat (first | rw [cif_t (by first | assumption | omega)] | rw [cif_f (by first | assumption | omega)])) <;> rfl⟩
      · try rw [u31] at c31
        refine Z_bipush 18 rfl rfl ?_
        refine Z_iret 19 rfl rfl ⟨Nat.le_refl _, Nat.le_refl _⟩ ?_
        exact ⟨by unfold pieceF mb; repeat (first | rw [cif_t (by first | assumption | omega)] | rw [cif_f (by first | assumption | omega)]), by unfold pieceF mb; (repeat (first | rw [cif_t (by first | assumption | omega)] | rw [cif_f (by first | assumption | omega)])) <;> rfl⟩
  · refine Z_iconst 6 rfl ?_
    refine Z_iret 7 rfl rfl ⟨Nat.le_refl _, Nat.le_refl _⟩ ?_
    exact ⟨by unfold pieceF mb; repeat (first | rw [cif_t (by first | assumption | omega)] | rw [cif_f (by first | assumption | omega)]), by unfold pieceF mb; (repeat (first | rw [cif_t (by first | assumption | omega)] | rw [cif_f (by first | assumption | omega)])) <;> rfl⟩
theorem c_M_drop (h : MV p) : Con l M_M_drop R_M_drop 0 0 false [.ref 0] (eM p he fa li sl be ov av bl kw sm ma mf mw cj) (zAi (dropF p.t).1 (fun m => m = eM ((dropF p.t).2, p.2) he fa li sl be ov av bl kw sm ma mf mw cj)) := by
  have h1 := h.1.1.1
  refine Con.of_Z (by decide) D_M_drop (Nat.le_of_ble_eq_true rfl) ?_
  refine Z_aload_n 0 rfl rfl rfl ?_
  refine Z_get 1 rfl f_M_77 rfl rfl ?_
  refine Z_if_ne 2 rfl (tgt := 10) rfl (by omega) (fun c4 => ?_) (fun c4 => ?_)
  · refine Z_aload_n 5 rfl rfl rfl ?_
    refine Z_dup 6 rfl rfl ?_
    refine Z_get 7 rfl f_M_77 rfl rfl ?_
    refine Z_iconst 8 rfl ?_
    refine Z_isub 9 rfl ?_
    refine Z_put 10 rfl f_M_77 rfl (Nat.le_of_ble_eq_true rfl) (fun _ => ⟨rfl, rfl⟩) (fs' := []) (mem' := eM ((p.t.1, p.t.2.1, p.t.2.2.1, p.t.2.2.2 - 1), p.2) he fa li sl be ov av bl kw sm ma mf mw cj) rfl ?_
    refine Z_aload_n 11 rfl rfl rfl ?_
    refine Z_get 12 rfl f_M_77 rfl rfl ?_
    refine Z_iret 13 rfl rfl ⟨Nat.le_refl _, Nat.le_refl _⟩ ?_
    exact ⟨by unfold dropF; (repeat (first | rw [cif_t (by first | assumption | omega)] | rw [cif_f (by first | assumption | omega)])) <;> rfl, by unfold dropF; (repeat (first | rw [cif_t (by first | assumption | omega)] | rw [cif_f (by first | assumption | omega)])) <;> rfl⟩
  · refine Z_bipush 3 rfl rfl ?_
    refine Z_iret 4 rfl rfl ⟨Nat.le_refl _, Nat.le_refl _⟩ ?_
    exact ⟨by unfold dropF; (repeat (first | rw [cif_t (by first | assumption | omega)] | rw [cif_f (by first | assumption | omega)])) <;> rfl, by unfold dropF; (repeat (first | rw [cif_t (by first | assumption | omega)] | rw [cif_f (by first | assumption | omega)])) <;> rfl⟩
theorem c_M_of (h : MV p) (j what : Int) (hj : inI j) (hw : inI what) : Con l M_M_of R_M_of 0 0 false [.ref 0, .int (iI j), .int (iI what)] (eM p he fa li sl be ov av bl kw sm ma mf mw cj) (zAi (ofF p.t j what) (fun m => m = eM p he fa li sl be ov av bl kw sm ma mf mw cj)) := by
  have h1 := h.1.1.1
  refine Con.of_Z (by decide) D_M_of (Nat.le_of_ble_eq_true rfl) ?_
  refine Z_aload_n 0 rfl rfl rfl ?_
  refine Z_iload_n 1 rfl rfl rfl ?_
  refine Z_callVbp (M' := M_M_isPiece) 2 isM rfl l_M_104 C_M_isPiece (c_M_isPiece l p he fa li sl be ov av bl kw sm ma mf mw cj h.1.1 j hj) (emM ..) (Or.inl ⟨_, _, _, _, rfl, rfl⟩) rfl rfl rfl (Nat.le_of_ble_eq_true rfl) ⟨rfl, rfl, Nat.le_of_ble_eq_true rfl, Nat.le_of_ble_eq_true rfl⟩ ⟨Nat.zero_le _, Nat.zero_le _⟩ ?_
  refine Z_ifb_eq 3 rfl (tgt := 20) rfl (fun c5 => ?_) (fun c5 => ?_)
  · refine Z_sipush 10 rfl rfl ?_
    refine Z_iret 11 rfl rfl ⟨Nat.le_refl _, Nat.le_refl _⟩ ?_
    first | (exfalso; omega) | exact ⟨by unfold ofF ptOf; (repeat (first | rw [cif_t (by first | assumption | omega)] | rw [cif_f (by first | assumption | omega)])) <;> first | (subst cs; rfl) | (rw [if_neg (by omega), if_pos (by omega)] <;> rfl), rfl⟩
  · refine Z_iload_n 4 rfl rfl rfl ?_
    refine Z_i2l 5 rfl (by omega) ?_
    refine Z_lconst 6 rfl ?_
    refine Z_ldc2 7 rfl k_M_114 (c := 4) rfl ?_
    refine Z_callSbp (M' := M_M_in) 8 [] rfl l_M_80 C_M_in (c_M_in l _ _ _ (by omega) (by omega) (by omega)) ⟨List.nodup_nil, zEL.n⟩ rfl rfl rfl (Nat.le_of_ble_eq_true rfl) ⟨rfl, rfl, Nat.le_of_ble_eq_true rfl, Nat.le_of_ble_eq_true rfl⟩ ⟨Nat.zero_le _, Nat.zero_le _⟩ ?_
    refine Z_ifb_ne 9 rfl (tgt := 24) rfl (fun c17 => ?_) (fun c17 => ?_)
    · refine Z_iload_n 12 rfl rfl rfl ?_
      rcases Classical.em (what < 0 ∨ 3 < what) with cs | cs
      · refine Z_tabOut 13 rfl hw cs (tgt := 83) rfl ?_
        refine Z_aload_n 33 rfl rfl rfl ?_
        refine Z_iload_n 34 rfl rfl rfl ?_
        refine Z_callVip (M' := M_M_ahead) 35 isM rfl l_M_92 C_M_ahead (c_M_ahead l p he fa li sl be ov av bl kw sm ma mf mw cj j (by omega)) (emM ..) (Or.inl ⟨_, _, _, _, rfl, rfl⟩) rfl rfl rfl (Nat.le_of_ble_eq_true rfl) ⟨rfl, rfl, Nat.le_of_ble_eq_true rfl, Nat.le_of_ble_eq_true rfl⟩ ⟨Nat.zero_le _, Nat.zero_le _⟩ ?_
        refine Z_iret 36 rfl rfl ⟨Nat.le_refl _, Nat.le_refl _⟩ ?_
        first | (exfalso; omega) | exact ⟨by unfold ofF ptOf; (repeat (first | rw [cif_t (by first | assumption | omega)] | rw [cif_f (by first | assumption | omega)])) <;> first | (subst cs; rfl) | (rw [if_neg (by omega), if_pos (by omega)] <;> rfl), rfl⟩
      rcases (show what = 0 ∨ what = 1 ∨ what = 2 ∨ what = 3 by omega) with cs | cs | cs | cs
      · refine Z_ci cs ?_
        refine Z_tabIn 13 rfl (by decide) (by decide) (by decide) (off := 31) rfl (tgt := 56) rfl ?_
        refine Z_aload_n 14 rfl rfl rfl ?_
        refine Z_get 15 rfl f_M_11 rfl rfl ?_
        refine Z_iload_n 16 rfl rfl rfl ?_
        refine Z_ia 17 rfl rfl (by omega) (by decide) ?_
        refine Z_iret 18 rfl rfl ⟨Nat.le_refl _, Nat.le_refl _⟩ ?_
        first | (exfalso; omega) | exact ⟨by unfold ofF ptOf; (repeat (first | rw [cif_t (by first | assumption | omega)] | rw [cif_f (by first | assumption | omega)])) <;> first | (subst cs; rfl) | (rw [if_neg (by omega), if_pos (by omega)] <;> rfl), rfl⟩
      · refine Z_ci cs ?_
        refine Z_tabIn 13 rfl (by decide) (by decide) (by decide) (off := 38) rfl (tgt := 63) rfl ?_
        refine Z_aload_n 19 rfl rfl rfl ?_
        refine Z_get 20 rfl f_M_15 rfl rfl ?_
        refine Z_iload_n 21 rfl rfl rfl ?_
        refine Z_ia 22 rfl rfl (by omega) (by decide) ?_
        refine Z_iret 23 rfl rfl ⟨Nat.le_refl _, Nat.le_refl _⟩ ?_
        first | (exfalso; omega) | exact ⟨by unfold ofF ptOf; (repeat (first | rw [cif_t (by first | assumption | omega)] | rw [cif_f (by first | assumption | omega)])) <;> first | (subst cs; rfl) | (rw [if_neg (by omega), if_pos (by omega)] <;> rfl), rfl⟩
      · refine Z_ci cs ?_
        refine Z_tabIn 13 rfl (by decide) (by decide) (by decide) (off := 45) rfl (tgt := 70) rfl ?_
        refine Z_aload_n 24 rfl rfl rfl ?_
        refine Z_get 25 rfl f_M_18 rfl rfl ?_
        refine Z_iload_n 26 rfl rfl rfl ?_
        refine Z_ia 27 rfl rfl (by omega) (by decide) ?_
        refine Z_iret 28 rfl rfl ⟨Nat.le_refl _, Nat.le_refl _⟩ ?_
        first | (exfalso; omega) | exact ⟨by unfold ofF ptOf; (repeat (first | rw [cif_t (by first | assumption | omega)] | rw [cif_f (by first | assumption | omega)])) <;> first | (subst cs; rfl) | (rw [if_neg (by omega), if_pos (by omega)] <;> rfl), rfl⟩
      · refine Z_ci cs ?_
        refine Z_tabIn 13 rfl (by decide) (by decide) (by decide) (off := 52) rfl (tgt := 77) rfl ?_
        refine Z_aload_n 29 rfl rfl rfl ?_
        refine Z_iload_n 30 rfl rfl rfl ?_
        refine Z_callVip (M' := M_M_begin) 31 isM rfl l_M_116 C_M_begin (c_M_begin l p he fa li sl be ov av bl kw sm ma mf mw cj j (by omega)) (emM ..) (Or.inl ⟨_, _, _, _, rfl, rfl⟩) rfl rfl rfl (Nat.le_of_ble_eq_true rfl) ⟨rfl, rfl, Nat.le_of_ble_eq_true rfl, Nat.le_of_ble_eq_true rfl⟩ ⟨Nat.zero_le _, Nat.zero_le _⟩ ?_
        refine Z_iret 32 rfl rfl ⟨Nat.le_refl _, Nat.le_refl _⟩ ?_
        first | (exfalso; omega) | exact ⟨by unfold ofF ptOf; (repeat (first | rw [cif_t (by first | assumption | omega)] | rw [cif_f (by first | assumption | omega)])) <;> first | (subst cs; rfl) | (rw [if_neg (by omega), if_pos (by omega)] <;> rfl), rfl⟩
    · refine Z_sipush 10 rfl rfl ?_
      refine Z_iret 11 rfl rfl ⟨Nat.le_refl _, Nat.le_refl _⟩ ?_
      first | (exfalso; omega) | exact ⟨by unfold ofF ptOf; (repeat (first | rw [cif_t (by first | assumption | omega)] | rw [cif_f (by first | assumption | omega)])) <;> first | (subst cs; rfl) | (rw [if_neg (by omega), if_pos (by omega)] <;> rfl), rfl⟩
theorem c_M_put (h : MV p) (j what v : Int) (hj : inI j) (hw : inI what) (hv : inI v) : Con l M_M_put R_M_put 0 0 false [.ref 0, .int (iI j), .int (iI what), .int (iI v)] (eM p he fa li sl be ov av bl kw sm ma mf mw cj) (zAi (putF p.t j what v).1 (fun m => m = eM ((putF p.t j what v).2, p.2) he fa li sl be ov av bl kw sm ma mf mw cj)) := by
  have h1 := h.1.1.1
  have h2 := tot_bd h.1.1
  have b1 := h.1.1.2.1 j
  have b2 := h.1.1.2.2.1 j
  have b3 := h.1.1.2.2.2 j
  obtain ⟨kk, hkk⟩ : ∃ kk, kk = if what = 0 then v else p.t.1 j := ⟨_, rfl⟩
  obtain ⟨ll, hll⟩ : ∃ ll, ll = if what = 1 then v else p.t.2.1 j := ⟨_, rfl⟩
  obtain ⟨rr, hrr⟩ : ∃ rr, rr = if what = 2 then v else p.t.2.2.1 j := ⟨_, rfl⟩
  have ik : inI kk := by rw [hkk]; split <;> omega
  have il : inI ll := by rw [hll]; split <;> omega
  have ir : inI rr := by rw [hrr]; split <;> omega
  refine Con.of_Z (by decide) D_M_put (Nat.le_of_ble_eq_true rfl) ?_
  refine Z_aload_n 0 rfl rfl rfl ?_
  refine Z_iload_n 1 rfl rfl rfl ?_
  refine Z_callVbp (M' := M_M_isPiece) 2 isM rfl l_M_104 C_M_isPiece (c_M_isPiece l p he fa li sl be ov av bl kw sm ma mf mw cj h.1.1 j hj) (emM ..) (Or.inl ⟨_, _, _, _, rfl, rfl⟩) rfl rfl rfl (Nat.le_of_ble_eq_true rfl) ⟨rfl, rfl, Nat.le_of_ble_eq_true rfl, Nat.le_of_ble_eq_true rfl⟩ ⟨Nat.zero_le _, Nat.zero_le _⟩ ?_
  refine Z_ifb_eq 3 rfl (tgt := 20) rfl (fun c5 => ?_) (fun c5 => ?_)
  · refine Z_sipush 10 rfl rfl ?_
    refine Z_iret 11 rfl rfl ⟨Nat.le_refl _, Nat.le_refl _⟩ ?_
    first | (exfalso; omega) | exact ⟨by unfold putF; rw [← hkk, ← hll, ← hrr]; unfold putG mb; repeat (first | rw [cif_t (by first | assumption | omega)] | rw [cif_f (by first | assumption | omega)]), by unfold putF; rw [← hkk, ← hll, ← hrr]; unfold putG mb; (repeat (first | rw [cif_t (by first | assumption | omega)] | rw [cif_f (by first | assumption | omega)])) <;> rfl⟩
  · refine Z_iload_n 4 rfl rfl rfl ?_
    refine Z_i2l 5 rfl (by omega) ?_
    refine Z_lconst 6 rfl ?_
    refine Z_ldc2 7 rfl k_M_108 (c := 2) rfl ?_
    refine Z_callSbp (M' := M_M_in) 8 [] rfl l_M_80 C_M_in (c_M_in l _ _ _ (by omega) (by omega) (by omega)) ⟨List.nodup_nil, zEL.n⟩ rfl rfl rfl (Nat.le_of_ble_eq_true rfl) ⟨rfl, rfl, Nat.le_of_ble_eq_true rfl, Nat.le_of_ble_eq_true rfl⟩ ⟨Nat.zero_le _, Nat.zero_le _⟩ ?_
    refine Z_ifb_ne 9 rfl (tgt := 24) rfl (fun c17 => ?_) (fun c17 => ?_)
    · refine Z_iload_n 12 rfl rfl rfl ?_
      refine Z_if_ne 13 rfl (tgt := 32) rfl (by omega) (fun c25 => ?_) (fun c25 => ?_)
      · refine Z_aload_n 16 rfl rfl rfl ?_
        refine Z_get 17 rfl f_M_11 rfl rfl ?_
        refine Z_iload_n 18 rfl rfl rfl ?_
        refine Z_ia 19 rfl rfl (by omega) (by decide) ?_
        refine Z_ci (show _ = kk by rw [hkk]; first | (exfalso; omega) | rw [if_pos (by omega)] | rw [if_neg (by omega)]) ?_
        refine Z_istore 20 rfl (Nat.le_of_ble_eq_true rfl) (lv' := [(4, .int _), (0, .ref _), (1, .int _), (2, .int _), (3, .int _)]) rfl ?_
        refine Z_iload_n 21 rfl rfl rfl ?_
        refine Z_iconst 22 rfl ?_
        refine Z_icmp_ne 23 rfl (tgt := 49) rfl (by omega) (by omega) (fun c42 => ?_) (fun c42 => ?_)
        · refine Z_aload_n 26 rfl rfl rfl ?_
          refine Z_get 27 rfl f_M_15 rfl rfl ?_
          refine Z_iload_n 28 rfl rfl rfl ?_
          refine Z_ia 29 rfl rfl (by omega) (by decide) ?_
          refine Z_ci (show _ = ll by rw [hll]; first | (exfalso; omega) | rw [if_pos (by omega)] | rw [if_neg (by omega)]) ?_
          refine Z_istore 30 rfl (Nat.le_of_ble_eq_true rfl) (lv' := [(5, .int _), (4, .int _), (0, .ref _), (1, .int _), (2, .int _), (3, .int _)]) rfl ?_
          refine Z_iload_n 31 rfl rfl rfl ?_
          refine Z_iconst 32 rfl ?_
          refine Z_icmp_ne 33 rfl (tgt := 66) rfl (by omega) (by omega) (fun c59 => ?_) (fun c59 => ?_)
          · refine Z_aload_n 36 rfl rfl rfl ?_
            refine Z_get 37 rfl f_M_18 rfl rfl ?_
            refine Z_iload_n 38 rfl rfl rfl ?_
            refine Z_ia 39 rfl rfl (by omega) (by decide) ?_
            refine Z_ci (show _ = rr by rw [hrr]; first | (exfalso; omega) | rw [if_pos (by omega)] | rw [if_neg (by omega)]) ?_
            refine Z_istore 40 rfl (Nat.le_of_ble_eq_true rfl) (lv' := [(6, .int _), (5, .int _), (4, .int _), (0, .ref _), (1, .int _), (2, .int _), (3, .int _)]) rfl ?_
            refine Z_iload 41 rfl rfl ?_
            refine Z_i2l 42 rfl (by omega) ?_
            refine Z_lconst 43 rfl ?_
            refine Z_ldc2 44 rfl k_M_96 (c := 5) rfl ?_
            refine Z_callSbp (M' := M_M_in) 45 [] rfl l_M_80 C_M_in (c_M_in l _ _ _ (by omega) (by omega) (by omega)) ⟨List.nodup_nil, zEL.n⟩ rfl rfl rfl (Nat.le_of_ble_eq_true rfl) ⟨rfl, rfl, Nat.le_of_ble_eq_true rfl, Nat.le_of_ble_eq_true rfl⟩ ⟨Nat.zero_le _, Nat.zero_le _⟩ ?_
            refine Z_ifb_eq 46 rfl (tgt := 130) rfl (fun c84 => ?_) (fun c84 => ?_)
            · try rw [u31] at c107
              refine Z_sipush 68 rfl rfl ?_
              refine Z_iret 69 rfl rfl ⟨Nat.le_refl _, Nat.le_refl _⟩ ?_
              first | (exfalso; omega) | exact ⟨by unfold putF; rw [← hkk, ← hll, ← hrr]; unfold putG mb; repeat (first | rw [cif_t (by first | assumption | omega)] | rw [cif_f (by first | assumption | omega)]), by unfold putF; rw [← hkk, ← hll, ← hrr]; unfold putG mb; (repeat (first | rw [cif_t (by first | assumption | omega)] | rw [cif_f (by first | assumption | omega)])) <;> rfl⟩
            · refine Z_iload 47 rfl rfl ?_
              refine Z_i2l 48 rfl (by omega) ?_
              refine Z_lconst 49 rfl ?_
              refine Z_ldc2 50 rfl k_M_98 (c := 360) rfl ?_
              refine Z_callSbp (M' := M_M_in) 51 [] rfl l_M_80 C_M_in (c_M_in l _ _ _ (by omega) (by omega) (by omega)) ⟨List.nodup_nil, zEL.n⟩ rfl rfl rfl (Nat.le_of_ble_eq_true rfl) ⟨rfl, rfl, Nat.le_of_ble_eq_true rfl, Nat.le_of_ble_eq_true rfl⟩ ⟨Nat.zero_le _, Nat.zero_le _⟩ ?_
              refine Z_ifb_eq 52 rfl (tgt := 130) rfl (fun c97 => ?_) (fun c97 => ?_)
              · try rw [u31] at c107
                refine Z_sipush 68 rfl rfl ?_
                refine Z_iret 69 rfl rfl ⟨Nat.le_refl _, Nat.le_refl _⟩ ?_
                first | (exfalso; omega) | exact ⟨by unfold putF; rw [← hkk, ← hll, ← hrr]; unfold putG mb; repeat (first | rw [cif_t (by first | assumption | omega)] | rw [cif_f (by first | assumption | omega)]), by unfold putF; rw [← hkk, ← hll, ← hrr]; unfold putG mb; (repeat (first | rw [cif_t (by first | assumption | omega)] | rw [cif_f (by first | assumption | omega)])) <;> rfl⟩
              · refine Z_iload 53 rfl rfl ?_
                refine Z_iload 54 rfl rfl ?_
                refine Z_callSbp (M' := M_M_isRise) 55 [] rfl l_M_100 C_M_isRise (c_M_isRise l kk rr ik ir) ⟨List.nodup_nil, zEL.n⟩ rfl rfl rfl (Nat.le_of_ble_eq_true rfl) ⟨rfl, rfl, Nat.le_of_ble_eq_true rfl, Nat.le_of_ble_eq_true rfl⟩ ⟨Nat.zero_le _, Nat.zero_le _⟩ ?_
                have u31 : isR kk rr ↔ (kk = 0 ∧ rr = 0) ∨ (kk ≠ 0 ∧ (-99 ≤ rr ∧ rr ≤ 99) ∧ rr ≠ 0) := Iff.rfl
                refine Z_ifb_eq 56 rfl (tgt := 130) rfl (fun c107 => ?_) (fun c107 => ?_)
                · try rw [u31] at c107
                  refine Z_sipush 68 rfl rfl ?_
                  refine Z_iret 69 rfl rfl ⟨Nat.le_refl _, Nat.le_refl _⟩ ?_
                  first | (exfalso; omega) | exact ⟨by unfold putF; rw [← hkk, ← hll, ← hrr]; unfold putG mb; repeat (first | rw [cif_t (by first | assumption | omega)] | rw [cif_f (by first | assumption | omega)]), by unfold putF; rw [← hkk, ← hll, ← hrr]; unfold putG mb; (repeat (first | rw [cif_t (by first | assumption | omega)] | rw [cif_f (by first | assumption | omega)])) <;> rfl⟩
                · rw [u31] at c107
                  refine Z_aload_n 57 rfl rfl rfl ?_
                  refine Z_callVip (M' := M_M_total) 58 isM rfl l_M_88 C_M_total (c_M_total l p he fa li sl be ov av bl kw sm ma mf mw cj h.1.1) (emM ..) (Or.inl ⟨_, _, _, _, rfl, rfl⟩) rfl rfl rfl (Nat.le_of_ble_eq_true rfl) ⟨rfl, rfl, Nat.le_of_ble_eq_true rfl, Nat.le_of_ble_eq_true rfl⟩ ⟨Nat.zero_le _, Nat.zero_le _⟩ ?_
                  refine Z_aload_n 59 rfl rfl rfl ?_
                  refine Z_get 60 rfl f_M_15 rfl rfl ?_
                  refine Z_iload_n 61 rfl rfl rfl ?_
                  refine Z_ia 62 rfl rfl (by omega) (by decide) ?_
                  refine Z_isub 63 rfl ?_
                  refine Z_iload 64 rfl rfl ?_
                  refine Z_iadd 65 rfl ?_
                  refine Z_sipush 66 rfl rfl ?_
                  refine Z_icmp_le 67 rfl (tgt := 134) rfl (by omega) (by omega) (fun c127 => ?_) (fun c127 => ?_)
                  · refine Z_aload_n 70 rfl rfl rfl ?_
                    refine Z_iload_n 71 rfl rfl rfl ?_
                    refine Z_iload_n 72 rfl rfl rfl ?_
                    refine Z_callVip (M' := M_M_of) 73 isM rfl l_M_110 C_M_of (c_M_of l p he fa li sl be ov av bl kw sm ma mf mw cj h j what hj hw) (emM ..) (Or.inl ⟨_, _, _, _, rfl, rfl⟩) rfl rfl rfl (Nat.le_of_ble_eq_true rfl) ⟨rfl, rfl, Nat.le_of_ble_eq_true rfl, Nat.le_of_ble_eq_true rfl⟩ ⟨Nat.zero_le _, Nat.zero_le _⟩ ?_
                    rw [show ofF p.t j what = ptOf p.t j what by unfold ofF; rw [cif_t (by omega), cif_t (by omega), if_neg (by omega), if_neg (by omega)]]
                    refine Z_istore 74 rfl (Nat.le_of_ble_eq_true rfl) (lv' := [(7, .int _), (6, .int _), (5, .int _), (4, .int _), (0, .ref _), (1, .int _), (2, .int _), (3, .int _)]) rfl ?_
                    refine Z_aload_n 75 rfl rfl rfl ?_
                    refine Z_get 76 rfl f_M_11 rfl rfl ?_
                    refine Z_iload_n 77 rfl rfl rfl ?_
                    refine Z_iload 78 rfl rfl ?_
                    refine Z_ias 79 rfl rfl (by omega) (by decide) (mem' := eM ((uI p.t.1 j kk, p.t.2), p.2) he fa li sl be ov av bl kw sm ma mf mw cj) rfl ?_
                    refine Z_aload_n 80 rfl rfl rfl ?_
                    refine Z_get 81 rfl f_M_15 rfl rfl ?_
                    refine Z_iload_n 82 rfl rfl rfl ?_
                    refine Z_iload 83 rfl rfl ?_
                    refine Z_ias 84 rfl rfl (by omega) (by decide) (mem' := eM ((uI p.t.1 j kk, uI p.t.2.1 j ll, p.t.2.2), p.2) he fa li sl be ov av bl kw sm ma mf mw cj) rfl ?_
                    refine Z_aload_n 85 rfl rfl rfl ?_
                    refine Z_get 86 rfl f_M_18 rfl rfl ?_
                    refine Z_iload_n 87 rfl rfl rfl ?_
                    refine Z_iload 88 rfl rfl ?_
                    refine Z_ias 89 rfl rfl (by omega) (by decide) (mem' := eM (tW p.t j kk ll rr, p.2) he fa li sl be ov av bl kw sm ma mf mw cj) rfl ?_
                    refine Z_iload 90 rfl rfl ?_
                    refine Z_iret 91 rfl rfl ⟨Nat.le_refl _, Nat.le_refl _⟩ ?_
                    first | (exfalso; omega) | exact ⟨by unfold putF; rw [← hkk, ← hll, ← hrr]; unfold putG mb; repeat (first | rw [cif_t (by first | assumption | omega)] | rw [cif_f (by first | assumption | omega)]), by unfold putF; rw [← hkk, ← hll, ← hrr]; unfold putG mb; (repeat (first | rw [cif_t (by first | assumption | omega)] | rw [cif_f (by first | assumption | omega)])) <;> rfl⟩
                  · try rw [u31] at c107
                    refine Z_sipush 68 rfl rfl ?_
                    refine Z_iret 69 rfl rfl ⟨Nat.le_refl _, Nat.le_refl _⟩ ?_
                    first | (exfalso; omega) | exact ⟨by unfold putF; rw [← hkk, ← hll, ← hrr]; unfold putG mb; repeat (first | rw [cif_t (by first | assumption | omega)] | rw [cif_f (by first | assumption | omega)]), by unfold putF; rw [← hkk, ← hll, ← hrr]; unfold putG mb; (repeat (first | rw [cif_t (by first | assumption | omega)] | rw [cif_f (by first | assumption | omega)])) <;> rfl⟩
          · refine Z_iload_n 34 rfl rfl rfl ?_
            refine Z_goto 35 rfl (tgt := 72) rfl ?_
            refine Z_ci (show _ = rr by rw [hrr]; first | (exfalso; omega) | rw [if_pos (by omega)] | rw [if_neg (by omega)]) ?_
            refine Z_istore 40 rfl (Nat.le_of_ble_eq_true rfl) (lv' := [(6, .int _), (5, .int _), (4, .int _), (0, .ref _), (1, .int _), (2, .int _), (3, .int _)]) rfl ?_
            refine Z_iload 41 rfl rfl ?_
            refine Z_i2l 42 rfl (by omega) ?_
            refine Z_lconst 43 rfl ?_
            refine Z_ldc2 44 rfl k_M_96 (c := 5) rfl ?_
            refine Z_callSbp (M' := M_M_in) 45 [] rfl l_M_80 C_M_in (c_M_in l _ _ _ (by omega) (by omega) (by omega)) ⟨List.nodup_nil, zEL.n⟩ rfl rfl rfl (Nat.le_of_ble_eq_true rfl) ⟨rfl, rfl, Nat.le_of_ble_eq_true rfl, Nat.le_of_ble_eq_true rfl⟩ ⟨Nat.zero_le _, Nat.zero_le _⟩ ?_
            refine Z_ifb_eq 46 rfl (tgt := 130) rfl (fun c84 => ?_) (fun c84 => ?_)
            · try rw [u31] at c107
              refine Z_sipush 68 rfl rfl ?_
              refine Z_iret 69 rfl rfl ⟨Nat.le_refl _, Nat.le_refl _⟩ ?_
              first | (exfalso; omega) | exact ⟨by unfold putF; rw [← hkk, ← hll, ← hrr]; unfold putG mb; repeat (first | rw [cif_t (by first | assumption | omega)] | rw [cif_f (by first | assumption | omega)]), by unfold putF; rw [← hkk, ← hll, ← hrr]; unfold putG mb; (repeat (first | rw [cif_t (by first | assumption | omega)] | rw [cif_f (by first | assumption | omega)])) <;> rfl⟩
            · refine Z_iload 47 rfl rfl ?_
              refine Z_i2l 48 rfl (by omega) ?_
              refine Z_lconst 49 rfl ?_
              refine Z_ldc2 50 rfl k_M_98 (c := 360) rfl ?_
              refine Z_callSbp (M' := M_M_in) 51 [] rfl l_M_80 C_M_in (c_M_in l _ _ _ (by omega) (by omega) (by omega)) ⟨List.nodup_nil, zEL.n⟩ rfl rfl rfl (Nat.le_of_ble_eq_true rfl) ⟨rfl, rfl, Nat.le_of_ble_eq_true rfl, Nat.le_of_ble_eq_true rfl⟩ ⟨Nat.zero_le _, Nat.zero_le _⟩ ?_
              refine Z_ifb_eq 52 rfl (tgt := 130) rfl (fun c97 => ?_) (fun c97 => ?_)
              · try rw [u31] at c107
                refine Z_sipush 68 rfl rfl ?_
                refine Z_iret 69 rfl rfl ⟨Nat.le_refl _, Nat.le_refl _⟩ ?_
                first | (exfalso; omega) | exact ⟨by unfold putF; rw [← hkk, ← hll, ← hrr]; unfold putG mb; repeat (first | rw [cif_t (by first | assumption | omega)] | rw [cif_f (by first | assumption | omega)]), by unfold putF; rw [← hkk, ← hll, ← hrr]; unfold putG mb; (repeat (first | rw [cif_t (by first | assumption | omega)] | rw [cif_f (by first | assumption | omega)])) <;> rfl⟩
              · refine Z_iload 53 rfl rfl ?_
                refine Z_iload 54 rfl rfl ?_
                refine Z_callSbp (M' := M_M_isRise) 55 [] rfl l_M_100 C_M_isRise (c_M_isRise l kk rr ik ir) ⟨List.nodup_nil, zEL.n⟩ rfl rfl rfl (Nat.le_of_ble_eq_true rfl) ⟨rfl, rfl, Nat.le_of_ble_eq_true rfl, Nat.le_of_ble_eq_true rfl⟩ ⟨Nat.zero_le _, Nat.zero_le _⟩ ?_
                have u31 : isR kk rr ↔ (kk = 0 ∧ rr = 0) ∨ (kk ≠ 0 ∧ (-99 ≤ rr ∧ rr ≤ 99) ∧ rr ≠ 0) := Iff.rfl
                refine Z_ifb_eq 56 rfl (tgt := 130) rfl (fun c107 => ?_) (fun c107 => ?_)
                · try rw [u31] at c107
                  refine Z_sipush 68 rfl rfl ?_
                  refine Z_iret 69 rfl rfl ⟨Nat.le_refl _, Nat.le_refl _⟩ ?_
                  first | (exfalso; omega) | exact ⟨by unfold putF; rw [← hkk, ← hll, ← hrr]; unfold putG mb; repeat (first | rw [cif_t (by first | assumption | omega)] | rw [cif_f (by first | assumption | omega)]), by unfold putF; rw [← hkk, ← hll, ← hrr]; unfold putG mb; (repeat (first | rw [cif_t (by first | assumption | omega)] | rw [cif_f (by first | assumption | omega)])) <;> rfl⟩
                · rw [u31] at c107
                  refine Z_aload_n 57 rfl rfl rfl ?_
                  refine Z_callVip (M' := M_M_total) 58 isM rfl l_M_88 C_M_total (c_M_total l p he fa li sl be ov av bl kw sm ma mf mw cj h.1.1) (emM ..) (Or.inl ⟨_, _, _, _, rfl, rfl⟩) rfl rfl rfl (Nat.le_of_ble_eq_true rfl) ⟨rfl, rfl, Nat.le_of_ble_eq_true rfl, Nat.le_of_ble_eq_true rfl⟩ ⟨Nat.zero_le _, Nat.zero_le _⟩ ?_
                  refine Z_aload_n 59 rfl rfl rfl ?_
                  refine Z_get 60 rfl f_M_15 rfl rfl ?_
                  refine Z_iload_n 61 rfl rfl rfl ?_
                  refine Z_ia 62 rfl rfl (by omega) (by decide) ?_
                  refine Z_isub 63 rfl ?_
                  refine Z_iload 64 rfl rfl ?_
                  refine Z_iadd 65 rfl ?_
                  refine Z_sipush 66 rfl rfl ?_
                  refine Z_icmp_le 67 rfl (tgt := 134) rfl (by omega) (by omega) (fun c127 => ?_) (fun c127 => ?_)
                  · refine Z_aload_n 70 rfl rfl rfl ?_
                    refine Z_iload_n 71 rfl rfl rfl ?_
                    refine Z_iload_n 72 rfl rfl rfl ?_
                    refine Z_callVip (M' := M_M_of) 73 isM rfl l_M_110 C_M_of (c_M_of l p he fa li sl be ov av bl kw sm ma mf mw cj h j what hj hw) (emM ..) (Or.inl ⟨_, _, _, _, rfl, rfl⟩) rfl rfl rfl (Nat.le_of_ble_eq_true rfl) ⟨rfl, rfl, Nat.le_of_ble_eq_true rfl, Nat.le_of_ble_eq_true rfl⟩ ⟨Nat.zero_le _, Nat.zero_le _⟩ ?_
                    rw [show ofF p.t j what = ptOf p.t j what by unfold ofF; rw [cif_t (by omega), cif_t (by omega), if_neg (by omega), if_neg (by omega)]]
                    refine Z_istore 74 rfl (Nat.le_of_ble_eq_true rfl) (lv' := [(7, .int _), (6, .int _), (5, .int _), (4, .int _), (0, .ref _), (1, .int _), (2, .int _), (3, .int _)]) rfl ?_
                    refine Z_aload_n 75 rfl rfl rfl ?_
                    refine Z_get 76 rfl f_M_11 rfl rfl ?_
                    refine Z_iload_n 77 rfl rfl rfl ?_
                    refine Z_iload 78 rfl rfl ?_
                    refine Z_ias 79 rfl rfl (by omega) (by decide) (mem' := eM ((uI p.t.1 j kk, p.t.2), p.2) he fa li sl be ov av bl kw sm ma mf mw cj) rfl ?_
                    refine Z_aload_n 80 rfl rfl rfl ?_
                    refine Z_get 81 rfl f_M_15 rfl rfl ?_
                    refine Z_iload_n 82 rfl rfl rfl ?_
                    refine Z_iload 83 rfl rfl ?_
                    refine Z_ias 84 rfl rfl (by omega) (by decide) (mem' := eM ((uI p.t.1 j kk, uI p.t.2.1 j ll, p.t.2.2), p.2) he fa li sl be ov av bl kw sm ma mf mw cj) rfl ?_
                    refine Z_aload_n 85 rfl rfl rfl ?_
                    refine Z_get 86 rfl f_M_18 rfl rfl ?_
                    refine Z_iload_n 87 rfl rfl rfl ?_
                    refine Z_iload 88 rfl rfl ?_
                    refine Z_ias 89 rfl rfl (by omega) (by decide) (mem' := eM (tW p.t j kk ll rr, p.2) he fa li sl be ov av bl kw sm ma mf mw cj) rfl ?_
                    refine Z_iload 90 rfl rfl ?_
                    refine Z_iret 91 rfl rfl ⟨Nat.le_refl _, Nat.le_refl _⟩ ?_
                    first | (exfalso; omega) | exact ⟨by unfold putF; rw [← hkk, ← hll, ← hrr]; unfold putG mb; repeat (first | rw [cif_t (by first | assumption | omega)] | rw [cif_f (by first | assumption | omega)]), by unfold putF; rw [← hkk, ← hll, ← hrr]; unfold putG mb; (repeat (first | rw [cif_t (by first | assumption | omega)] | rw [cif_f (by first | assumption | omega)])) <;> rfl⟩
                  · try rw [u31] at c107
                    refine Z_sipush 68 rfl rfl ?_
                    refine Z_iret 69 rfl rfl ⟨Nat.le_refl _, Nat.le_refl _⟩ ?_
                    first | (exfalso; omega) | exact ⟨by unfold putF; rw [← hkk, ← hll, ← hrr]; unfold putG mb; repeat (first | rw [cif_t (by first | assumption | omega)] | rw [cif_f (by first | assumption | omega)]), by unfold putF; rw [← hkk, ← hll, ← hrr]; unfold putG mb; (repeat (first | rw [cif_t (by first | assumption | omega)] | rw [cif_f (by first | assumption | omega)])) <;> rfl⟩
        · refine Z_iload_n 24 rfl rfl rfl ?_
          refine Z_goto 25 rfl (tgt := 55) rfl ?_
          refine Z_ci (show _ = ll by rw [hll]; first | (exfalso; omega) | rw [if_pos (by omega)] | rw [if_neg (by omega)]) ?_
          refine Z_istore 30 rfl (Nat.le_of_ble_eq_true rfl) (lv' := [(5, .int _), (4, .int _), (0, .ref _), (1, .int _), (2, .int _), (3, .int _)]) rfl ?_
          refine Z_iload_n 31 rfl rfl rfl ?_
          refine Z_iconst 32 rfl ?_
          refine Z_icmp_ne 33 rfl (tgt := 66) rfl (by omega) (by omega) (fun c59 => ?_) (fun c59 => ?_)
          · refine Z_aload_n 36 rfl rfl rfl ?_
            refine Z_get 37 rfl f_M_18 rfl rfl ?_
            refine Z_iload_n 38 rfl rfl rfl ?_
            refine Z_ia 39 rfl rfl (by omega) (by decide) ?_
            refine Z_ci (show _ = rr by rw [hrr]; first | (exfalso; omega) | rw [if_pos (by omega)] | rw [if_neg (by omega)]) ?_
            refine Z_istore 40 rfl (Nat.le_of_ble_eq_true rfl) (lv' := [(6, .int _), (5, .int _), (4, .int _), (0, .ref _), (1, .int _), (2, .int _), (3, .int _)]) rfl ?_
            refine Z_iload 41 rfl rfl ?_
            refine Z_i2l 42 rfl (by omega) ?_
            refine Z_lconst 43 rfl ?_
            refine Z_ldc2 44 rfl k_M_96 (c := 5) rfl ?_
            refine Z_callSbp (M' := M_M_in) 45 [] rfl l_M_80 C_M_in (c_M_in l _ _ _ (by omega) (by omega) (by omega)) ⟨List.nodup_nil, zEL.n⟩ rfl rfl rfl (Nat.le_of_ble_eq_true rfl) ⟨rfl, rfl, Nat.le_of_ble_eq_true rfl, Nat.le_of_ble_eq_true rfl⟩ ⟨Nat.zero_le _, Nat.zero_le _⟩ ?_
            refine Z_ifb_eq 46 rfl (tgt := 130) rfl (fun c84 => ?_) (fun c84 => ?_)
            · try rw [u31] at c107
              refine Z_sipush 68 rfl rfl ?_
              refine Z_iret 69 rfl rfl ⟨Nat.le_refl _, Nat.le_refl _⟩ ?_
              first | (exfalso; omega) | exact ⟨by unfold putF; rw [← hkk, ← hll, ← hrr]; unfold putG mb; repeat (first | rw [cif_t (by first | assumption | omega)] | rw [cif_f (by first | assumption | omega)]), by unfold putF; rw [← hkk, ← hll, ← hrr]; unfold putG mb; (repeat (first | rw [cif_t (by first | assumption | omega)] | rw [cif_f (by first | assumption | omega)])) <;> rfl⟩
            · refine Z_iload 47 rfl rfl ?_
              refine Z_i2l 48 rfl (by omega) ?_
              refine Z_lconst 49 rfl ?_
              refine Z_ldc2 50 rfl k_M_98 (c := 360) rfl ?_
              refine Z_callSbp (M' := M_M_in) 51 [] rfl l_M_80 C_M_in (c_M_in l _ _ _ (by omega) (by omega) (by omega)) ⟨List.nodup_nil, zEL.n⟩ rfl rfl rfl (Nat.le_of_ble_eq_true rfl) ⟨rfl, rfl, Nat.le_of_ble_eq_true rfl, Nat.le_of_ble_eq_true rfl⟩ ⟨Nat.zero_le _, Nat.zero_le _⟩ ?_
              refine Z_ifb_eq 52 rfl (tgt := 130) rfl (fun c97 => ?_) (fun c97 => ?_)
              · try rw [u31] at c107
                refine Z_sipush 68 rfl rfl ?_
                refine Z_iret 69 rfl rfl ⟨Nat.le_refl _, Nat.le_refl _⟩ ?_
                first | (exfalso; omega) | exact ⟨by unfold putF; rw [← hkk, ← hll, ← hrr]; unfold putG mb; repeat (first | rw [cif_t (by first | assumption | omega)] | rw [cif_f (by first | assumption | omega)]), by unfold putF; rw [← hkk, ← hll, ← hrr]; unfold putG mb; (repeat (first | rw [cif_t (by first | assumption | omega)] | rw [cif_f (by first | assumption | omega)])) <;> rfl⟩
              · refine Z_iload 53 rfl rfl ?_
                refine Z_iload 54 rfl rfl ?_
                refine Z_callSbp (M' := M_M_isRise) 55 [] rfl l_M_100 C_M_isRise (c_M_isRise l kk rr ik ir) ⟨List.nodup_nil, zEL.n⟩ rfl rfl rfl (Nat.le_of_ble_eq_true rfl) ⟨rfl, rfl, Nat.le_of_ble_eq_true rfl, Nat.le_of_ble_eq_true rfl⟩ ⟨Nat.zero_le _, Nat.zero_le _⟩ ?_
                have u31 : isR kk rr ↔ (kk = 0 ∧ rr = 0) ∨ (kk ≠ 0 ∧ (-99 ≤ rr ∧ rr ≤ 99) ∧ rr ≠ 0) := Iff.rfl
                refine Z_ifb_eq 56 rfl (tgt := 130) rfl (fun c107 => ?_) (fun c107 => ?_)
                · try rw [u31] at c107
                  refine Z_sipush 68 rfl rfl ?_
                  refine Z_iret 69 rfl rfl ⟨Nat.le_refl _, Nat.le_refl _⟩ ?_
                  first | (exfalso; omega) | exact ⟨by unfold putF; rw [← hkk, ← hll, ← hrr]; unfold putG mb; repeat (first | rw [cif_t (by first | assumption | omega)] | rw [cif_f (by first | assumption | omega)]), by unfold putF; rw [← hkk, ← hll, ← hrr]; unfold putG mb; (repeat (first | rw [cif_t (by first | assumption | omega)] | rw [cif_f (by first | assumption | omega)])) <;> rfl⟩
                · rw [u31] at c107
                  refine Z_aload_n 57 rfl rfl rfl ?_
                  refine Z_callVip (M' := M_M_total) 58 isM rfl l_M_88 C_M_total (c_M_total l p he fa li sl be ov av bl kw sm ma mf mw cj h.1.1) (emM ..) (Or.inl ⟨_, _, _, _, rfl, rfl⟩) rfl rfl rfl (Nat.le_of_ble_eq_true rfl) ⟨rfl, rfl, Nat.le_of_ble_eq_true rfl, Nat.le_of_ble_eq_true rfl⟩ ⟨Nat.zero_le _, Nat.zero_le _⟩ ?_
                  refine Z_aload_n 59 rfl rfl rfl ?_
                  refine Z_get 60 rfl f_M_15 rfl rfl ?_
                  refine Z_iload_n 61 rfl rfl rfl ?_
                  refine Z_ia 62 rfl rfl (by omega) (by decide) ?_
                  refine Z_isub 63 rfl ?_
                  refine Z_iload 64 rfl rfl ?_
                  refine Z_iadd 65 rfl ?_
                  refine Z_sipush 66 rfl rfl ?_
                  refine Z_icmp_le 67 rfl (tgt := 134) rfl (by omega) (by omega) (fun c127 => ?_) (fun c127 => ?_)
                  · refine Z_aload_n 70 rfl rfl rfl ?_
                    refine Z_iload_n 71 rfl rfl rfl ?_
                    refine Z_iload_n 72 rfl rfl rfl ?_
                    refine Z_callVip (M' := M_M_of) 73 isM rfl l_M_110 C_M_of (c_M_of l p he fa li sl be ov av bl kw sm ma mf mw cj h j what hj hw) (emM ..) (Or.inl ⟨_, _, _, _, rfl, rfl⟩) rfl rfl rfl (Nat.le_of_ble_eq_true rfl) ⟨rfl, rfl, Nat.le_of_ble_eq_true rfl, Nat.le_of_ble_eq_true rfl⟩ ⟨Nat.zero_le _, Nat.zero_le _⟩ ?_
                    rw [show ofF p.t j what = ptOf p.t j what by unfold ofF; rw [cif_t (by omega), cif_t (by omega), if_neg (by omega), if_neg (by omega)]]
                    refine Z_istore 74 rfl (Nat.le_of_ble_eq_true rfl) (lv' := [(7, .int _), (6, .int _), (5, .int _), (4, .int _), (0, .ref _), (1, .int _), (2, .int _), (3, .int _)]) rfl ?_
                    refine Z_aload_n 75 rfl rfl rfl ?_
                    refine Z_get 76 rfl f_M_11 rfl rfl ?_
                    refine Z_iload_n 77 rfl rfl rfl ?_
                    refine Z_iload 78 rfl rfl ?_
                    refine Z_ias 79 rfl rfl (by omega) (by decide) (mem' := eM ((uI p.t.1 j kk, p.t.2), p.2) he fa li sl be ov av bl kw sm ma mf mw cj) rfl ?_
                    refine Z_aload_n 80 rfl rfl rfl ?_
                    refine Z_get 81 rfl f_M_15 rfl rfl ?_
                    refine Z_iload_n 82 rfl rfl rfl ?_
                    refine Z_iload 83 rfl rfl ?_
                    refine Z_ias 84 rfl rfl (by omega) (by decide) (mem' := eM ((uI p.t.1 j kk, uI p.t.2.1 j ll, p.t.2.2), p.2) he fa li sl be ov av bl kw sm ma mf mw cj) rfl ?_
                    refine Z_aload_n 85 rfl rfl rfl ?_
                    refine Z_get 86 rfl f_M_18 rfl rfl ?_
                    refine Z_iload_n 87 rfl rfl rfl ?_
                    refine Z_iload 88 rfl rfl ?_
                    refine Z_ias 89 rfl rfl (by omega) (by decide) (mem' := eM (tW p.t j kk ll rr, p.2) he fa li sl be ov av bl kw sm ma mf mw cj) rfl ?_
                    refine Z_iload 90 rfl rfl ?_
                    refine Z_iret 91 rfl rfl ⟨Nat.le_refl _, Nat.le_refl _⟩ ?_
                    first | (exfalso; omega) | exact ⟨by unfold putF; rw [← hkk, ← hll, ← hrr]; unfold putG mb; repeat (first | rw [cif_t (by first | assumption | omega)] | rw [cif_f (by first | assumption | omega)]), by unfold putF; rw [← hkk, ← hll, ← hrr]; unfold putG mb; (repeat (first | rw [cif_t (by first | assumption | omega)] | rw [cif_f (by first | assumption | omega)])) <;> rfl⟩
                  · try rw [u31] at c107
                    refine Z_sipush 68 rfl rfl ?_
                    refine Z_iret 69 rfl rfl ⟨Nat.le_refl _, Nat.le_refl _⟩ ?_
                    first | (exfalso; omega) | exact ⟨by unfold putF; rw [← hkk, ← hll, ← hrr]; unfold putG mb; repeat (first | rw [cif_t (by first | assumption | omega)] | rw [cif_f (by first | assumption | omega)]), by unfold putF; rw [← hkk, ← hll, ← hrr]; unfold putG mb; (repeat (first | rw [cif_t (by first | assumption | omega)] | rw [cif_f (by first | assumption | omega)])) <;> rfl⟩
          · refine Z_iload_n 34 rfl rfl rfl ?_
            refine Z_goto 35 rfl (tgt := 72) rfl ?_
            refine Z_ci (show _ = rr by rw [hrr]; first | (exfalso; omega) | rw [if_pos (by omega)] | rw [if_neg (by omega)]) ?_
            refine Z_istore 40 rfl (Nat.le_of_ble_eq_true rfl) (lv' := [(6, .int _), (5, .int _), (4, .int _), (0, .ref _), (1, .int _), (2, .int _), (3, .int _)]) rfl ?_
            refine Z_iload 41 rfl rfl ?_
            refine Z_i2l 42 rfl (by omega) ?_
            refine Z_lconst 43 rfl ?_
            refine Z_ldc2 44 rfl k_M_96 (c := 5) rfl ?_
            refine Z_callSbp (M' := M_M_in) 45 [] rfl l_M_80 C_M_in (c_M_in l _ _ _ (by omega) (by omega) (by omega)) ⟨List.nodup_nil, zEL.n⟩ rfl rfl rfl (Nat.le_of_ble_eq_true rfl) ⟨rfl, rfl, Nat.le_of_ble_eq_true rfl, Nat.le_of_ble_eq_true rfl⟩ ⟨Nat.zero_le _, Nat.zero_le _⟩ ?_
            refine Z_ifb_eq 46 rfl (tgt := 130) rfl (fun c84 => ?_) (fun c84 => ?_)
            · try rw [u31] at c107
              refine Z_sipush 68 rfl rfl ?_
              refine Z_iret 69 rfl rfl ⟨Nat.le_refl _, Nat.le_refl _⟩ ?_
              first | (exfalso; omega) | exact ⟨by unfold putF; rw [← hkk, ← hll, ← hrr]; unfold putG mb; repeat (first | rw [cif_t (by first | assumption | omega)] | rw [cif_f (by first | assumption | omega)]), by unfold putF; rw [← hkk, ← hll, ← hrr]; unfold putG mb; (repeat (first | rw [cif_t (by first | assumption | omega)] | rw [cif_f (by first | assumption | omega)])) <;> rfl⟩
            · refine Z_iload 47 rfl rfl ?_
              refine Z_i2l 48 rfl (by omega) ?_
              refine Z_lconst 49 rfl ?_
              refine Z_ldc2 50 rfl k_M_98 (c := 360) rfl ?_
              refine Z_callSbp (M' := M_M_in) 51 [] rfl l_M_80 C_M_in (c_M_in l _ _ _ (by omega) (by omega) (by omega)) ⟨List.nodup_nil, zEL.n⟩ rfl rfl rfl (Nat.le_of_ble_eq_true rfl) ⟨rfl, rfl, Nat.le_of_ble_eq_true rfl, Nat.le_of_ble_eq_true rfl⟩ ⟨Nat.zero_le _, Nat.zero_le _⟩ ?_
              refine Z_ifb_eq 52 rfl (tgt := 130) rfl (fun c97 => ?_) (fun c97 => ?_)
              · try rw [u31] at c107
                refine Z_sipush 68 rfl rfl ?_
                refine Z_iret 69 rfl rfl ⟨Nat.le_refl _, Nat.le_refl _⟩ ?_
                first | (exfalso; omega) | exact ⟨by unfold putF; rw [← hkk, ← hll, ← hrr]; unfold putG mb; repeat (first | rw [cif_t (by first | assumption | omega)] | rw [cif_f (by first | assumption | omega)]), by unfold putF; rw [← hkk, ← hll, ← hrr]; unfold putG mb; (repeat (first | rw [cif_t (by first | assumption | omega)] | rw [cif_f (by first | assumption | omega)])) <;> rfl⟩
              · refine Z_iload 53 rfl rfl ?_
                refine Z_iload 54 rfl rfl ?_
                refine Z_callSbp (M' := M_M_isRise) 55 [] rfl l_M_100 C_M_isRise (c_M_isRise l kk rr ik ir) ⟨List.nodup_nil, zEL.n⟩ rfl rfl rfl (Nat.le_of_ble_eq_true rfl) ⟨rfl, rfl, Nat.le_of_ble_eq_true rfl, Nat.le_of_ble_eq_true rfl⟩ ⟨Nat.zero_le _, Nat.zero_le _⟩ ?_
                have u31 : isR kk rr ↔ (kk = 0 ∧ rr = 0) ∨ (kk ≠ 0 ∧ (-99 ≤ rr ∧ rr ≤ 99) ∧ rr ≠ 0) := Iff.rfl
                refine Z_ifb_eq 56 rfl (tgt := 130) rfl (fun c107 => ?_) (fun c107 => ?_)
                · try rw [u31] at c107
                  refine Z_sipush 68 rfl rfl ?_
                  refine Z_iret 69 rfl rfl ⟨Nat.le_refl _, Nat.le_refl _⟩ ?_
                  first | (exfalso; omega) | exact ⟨by unfold putF; rw [← hkk, ← hll, ← hrr]; unfold putG mb; repeat (first | rw [cif_t (by first | assumption | omega)] | rw [cif_f (by first | assumption | omega)]), by unfold putF; rw [← hkk, ← hll, ← hrr]; unfold putG mb; (repeat (first | rw [cif_t (by first | assumption | omega)] | rw [cif_f (by first | assumption | omega)])) <;> rfl⟩
                · rw [u31] at c107
                  refine Z_aload_n 57 rfl rfl rfl ?_
                  refine Z_callVip (M' := M_M_total) 58 isM rfl l_M_88 C_M_total (c_M_total l p he fa li sl be ov av bl kw sm ma mf mw cj h.1.1) (emM ..) (Or.inl ⟨_, _, _, _, rfl, rfl⟩) rfl rfl rfl (Nat.le_of_ble_eq_true rfl) ⟨rfl, rfl, Nat.le_of_ble_eq_true rfl, Nat.le_of_ble_eq_true rfl⟩ ⟨Nat.zero_le _, Nat.zero_le _⟩ ?_
                  refine Z_aload_n 59 rfl rfl rfl ?_
                  refine Z_get 60 rfl f_M_15 rfl rfl ?_
                  refine Z_iload_n 61 rfl rfl rfl ?_
                  refine Z_ia 62 rfl rfl (by omega) (by decide) ?_
                  refine Z_isub 63 rfl ?_
                  refine Z_iload 64 rfl rfl ?_
                  refine Z_iadd 65 rfl ?_
                  refine Z_sipush 66 rfl rfl ?_
                  refine Z_icmp_le 67 rfl (tgt := 134) rfl (by omega) (by omega) (fun c127 => ?_) (fun c127 => ?_)
                  · refine Z_aload_n 70 rfl rfl rfl ?_
                    refine Z_iload_n 71 rfl rfl rfl ?_
                    refine Z_iload_n 72 rfl rfl rfl ?_
                    refine Z_callVip (M' := M_M_of) 73 isM rfl l_M_110 C_M_of (c_M_of l p he fa li sl be ov av bl kw sm ma mf mw cj h j what hj hw) (emM ..) (Or.inl ⟨_, _, _, _, rfl, rfl⟩) rfl rfl rfl (Nat.le_of_ble_eq_true rfl) ⟨rfl, rfl, Nat.le_of_ble_eq_true rfl, Nat.le_of_ble_eq_true rfl⟩ ⟨Nat.zero_le _, Nat.zero_le _⟩ ?_
                    rw [show ofF p.t j what = ptOf p.t j what by unfold ofF; rw [cif_t (by omega), cif_t (by omega), if_neg (by omega), if_neg (by omega)]]
                    refine Z_istore 74 rfl (Nat.le_of_ble_eq_true rfl) (lv' := [(7, .int _), (6, .int _), (5, .int _), (4, .int _), (0, .ref _), (1, .int _), (2, .int _), (3, .int _)]) rfl ?_
                    refine Z_aload_n 75 rfl rfl rfl ?_
                    refine Z_get 76 rfl f_M_11 rfl rfl ?_
                    refine Z_iload_n 77 rfl rfl rfl ?_
                    refine Z_iload 78 rfl rfl ?_
                    refine Z_ias 79 rfl rfl (by omega) (by decide) (mem' := eM ((uI p.t.1 j kk, p.t.2), p.2) he fa li sl be ov av bl kw sm ma mf mw cj) rfl ?_
                    refine Z_aload_n 80 rfl rfl rfl ?_
                    refine Z_get 81 rfl f_M_15 rfl rfl ?_
                    refine Z_iload_n 82 rfl rfl rfl ?_
                    refine Z_iload 83 rfl rfl ?_
                    refine Z_ias 84 rfl rfl (by omega) (by decide) (mem' := eM ((uI p.t.1 j kk, uI p.t.2.1 j ll, p.t.2.2), p.2) he fa li sl be ov av bl kw sm ma mf mw cj) rfl ?_
                    refine Z_aload_n 85 rfl rfl rfl ?_
                    refine Z_get 86 rfl f_M_18 rfl rfl ?_
                    refine Z_iload_n 87 rfl rfl rfl ?_
                    refine Z_iload 88 rfl rfl ?_
                    refine Z_ias 89 rfl rfl (by omega) (by decide) (mem' := eM (tW p.t j kk ll rr, p.2) he fa li sl be ov av bl kw sm ma mf mw cj) rfl ?_
                    refine Z_iload 90 rfl rfl ?_
                    refine Z_iret 91 rfl rfl ⟨Nat.le_refl _, Nat.le_refl _⟩ ?_
                    first | (exfalso; omega) | exact ⟨by unfold putF; rw [← hkk, ← hll, ← hrr]; unfold putG mb; repeat (first | rw [cif_t (by first | assumption | omega)] | rw [cif_f (by first | assumption | omega)]), by unfold putF; rw [← hkk, ← hll, ← hrr]; unfold putG mb; (repeat (first | rw [cif_t (by first | assumption | omega)] | rw [cif_f (by first | assumption | omega)])) <;> rfl⟩
                  · try rw [u31] at c107
                    refine Z_sipush 68 rfl rfl ?_
                    refine Z_iret 69 rfl rfl ⟨Nat.le_refl _, Nat.le_refl _⟩ ?_
                    first | (exfalso; omega) | exact ⟨by unfold putF; rw [← hkk, ← hll, ← hrr]; unfold putG mb; repeat (first | rw [cif_t (by first | assumption | omega)] | rw [cif_f (by first | assumption | omega)]), by unfold putF; rw [← hkk, ← hll, ← hrr]; unfold putG mb; (repeat (first | rw [cif_t (by first | assumption | omega)] | rw [cif_f (by first | assumption | omega)])) <;> rfl⟩
      · refine Z_iload_n 14 rfl rfl rfl ?_
        refine Z_goto 15 rfl (tgt := 38) rfl ?_
        refine Z_ci (show _ = kk by rw [hkk]; first | (exfalso; omega) | rw [if_pos (by omega)] | rw [if_neg (by omega)]) ?_
        refine Z_istore 20 rfl (Nat.le_of_ble_eq_true rfl) (lv' := [(4, .int _), (0, .ref _), (1, .int _), (2, .int _), (3, .int _)]) rfl ?_
        refine Z_iload_n 21 rfl rfl rfl ?_
        refine Z_iconst 22 rfl ?_
        refine Z_icmp_ne 23 rfl (tgt := 49) rfl (by omega) (by omega) (fun c42 => ?_) (fun c42 => ?_)
        · refine Z_aload_n 26 rfl rfl rfl ?_
          refine Z_get 27 rfl f_M_15 rfl rfl ?_
          refine Z_iload_n 28 rfl rfl rfl ?_
          refine Z_ia 29 rfl rfl (by omega) (by decide) ?_
          refine Z_ci (show _ = ll by rw [hll]; first | (exfalso; omega) | rw [if_pos (by omega)] | rw [if_neg (by omega)]) ?_
          refine Z_istore 30 rfl (Nat.le_of_ble_eq_true rfl) (lv' := [(5, .int _), (4, .int _), (0, .ref _), (1, .int _), (2, .int _), (3, .int _)]) rfl ?_
          refine Z_iload_n 31 rfl rfl rfl ?_
          refine Z_iconst 32 rfl ?_
          refine Z_icmp_ne 33 rfl (tgt := 66) rfl (by omega) (by omega) (fun c59 => ?_) (fun c59 => ?_)
          · refine Z_aload_n 36 rfl rfl rfl ?_
            refine Z_get 37 rfl f_M_18 rfl rfl ?_
            refine Z_iload_n 38 rfl rfl rfl ?_
            refine Z_ia 39 rfl rfl (by omega) (by decide) ?_
            refine Z_ci (show _ = rr by rw [hrr]; first | (exfalso; omega) | rw [if_pos (by omega)] | rw [if_neg (by omega)]) ?_
            refine Z_istore 40 rfl (Nat.le_of_ble_eq_true rfl) (lv' := [(6, .int _), (5, .int _), (4, .int _), (0, .ref _), (1, .int _), (2, .int _), (3, .int _)]) rfl ?_
            refine Z_iload 41 rfl rfl ?_
            refine Z_i2l 42 rfl (by omega) ?_
            refine Z_lconst 43 rfl ?_
            refine Z_ldc2 44 rfl k_M_96 (c := 5) rfl ?_
            refine Z_callSbp (M' := M_M_in) 45 [] rfl l_M_80 C_M_in (c_M_in l _ _ _ (by omega) (by omega) (by omega)) ⟨List.nodup_nil, zEL.n⟩ rfl rfl rfl (Nat.le_of_ble_eq_true rfl) ⟨rfl, rfl, Nat.le_of_ble_eq_true rfl, Nat.le_of_ble_eq_true rfl⟩ ⟨Nat.zero_le _, Nat.zero_le _⟩ ?_
            refine Z_ifb_eq 46 rfl (tgt := 130) rfl (fun c84 => ?_) (fun c84 => ?_)
            · try rw [u31] at c107
              refine Z_sipush 68 rfl rfl ?_
              refine Z_iret 69 rfl rfl ⟨Nat.le_refl _, Nat.le_refl _⟩ ?_
              first | (exfalso; omega) | exact ⟨by unfold putF; rw [← hkk, ← hll, ← hrr]; unfold putG mb; repeat (first | rw [cif_t (by first | assumption | omega)] | rw [cif_f (by first | assumption | omega)]), by unfold putF; rw [← hkk, ← hll, ← hrr]; unfold putG mb; (repeat (first | rw [cif_t (by first | assumption | omega)] | rw [cif_f (by first | assumption | omega)])) <;> rfl⟩
            · refine Z_iload 47 rfl rfl ?_
              refine Z_i2l 48 rfl (by omega) ?_
              refine Z_lconst 49 rfl ?_
              refine Z_ldc2 50 rfl k_M_98 (c := 360) rfl ?_
              refine Z_callSbp (M' := M_M_in) 51 [] rfl l_M_80 C_M_in (c_M_in l _ _ _ (by omega) (by omega) (by omega)) ⟨List.nodup_nil, zEL.n⟩ rfl rfl rfl (Nat.le_of_ble_eq_true rfl) ⟨rfl, rfl, Nat.le_of_ble_eq_true rfl, Nat.le_of_ble_eq_true rfl⟩ ⟨Nat.zero_le _, Nat.zero_le _⟩ ?_
              refine Z_ifb_eq 52 rfl (tgt := 130) rfl (fun c97 => ?_) (fun c97 => ?_)
              · try rw [u31] at c107
                refine Z_sipush 68 rfl rfl ?_
                refine Z_iret 69 rfl rfl ⟨Nat.le_refl _, Nat.le_refl _⟩ ?_
                first | (exfalso; omega) | exact ⟨by unfold putF; rw [← hkk, ← hll, ← hrr]; unfold putG mb; repeat (first | rw [cif_t (by first | assumption | omega)] | rw [cif_f (by first | assumption | omega)]), by unfold putF; rw [← hkk, ← hll, ← hrr]; unfold putG mb; (repeat (first | rw [cif_t (by first | assumption | omega)] | rw [cif_f (by first | assumption | omega)])) <;> rfl⟩
              · refine Z_iload 53 rfl rfl ?_
                refine Z_iload 54 rfl rfl ?_
                refine Z_callSbp (M' := M_M_isRise) 55 [] rfl l_M_100 C_M_isRise (c_M_isRise l kk rr ik ir) ⟨List.nodup_nil, zEL.n⟩ rfl rfl rfl (Nat.le_of_ble_eq_true rfl) ⟨rfl, rfl, Nat.le_of_ble_eq_true rfl, Nat.le_of_ble_eq_true rfl⟩ ⟨Nat.zero_le _, Nat.zero_le _⟩ ?_
                have u31 : isR kk rr ↔ (kk = 0 ∧ rr = 0) ∨ (kk ≠ 0 ∧ (-99 ≤ rr ∧ rr ≤ 99) ∧ rr ≠ 0) := Iff.rfl
                refine Z_ifb_eq 56 rfl (tgt := 130) rfl (fun c107 => ?_) (fun c107 => ?_)
                · try rw [u31] at c107
                  refine Z_sipush 68 rfl rfl ?_
                  refine Z_iret 69 rfl rfl ⟨Nat.le_refl _, Nat.le_refl _⟩ ?_
                  first | (exfalso; omega) | exact ⟨by unfold putF; rw [← hkk, ← hll, ← hrr]; unfold putG mb; repeat (first | rw [cif_t (by first | assumption | omega)] | rw [cif_f (by first | assumption | omega)]), by unfold putF; rw [← hkk, ← hll, ← hrr]; unfold putG mb; (repeat (first | rw [cif_t (by first | assumption | omega)] | rw [cif_f (by first | assumption | omega)])) <;> rfl⟩
                · rw [u31] at c107
                  refine Z_aload_n 57 rfl rfl rfl ?_
                  refine Z_callVip (M' := M_M_total) 58 isM rfl l_M_88 C_M_total (c_M_total l p he fa li sl be ov av bl kw sm ma mf mw cj h.1.1) (emM ..) (Or.inl ⟨_, _, _, _, rfl, rfl⟩) rfl rfl rfl (Nat.le_of_ble_eq_true rfl) ⟨rfl, rfl, Nat.le_of_ble_eq_true rfl, Nat.le_of_ble_eq_true rfl⟩ ⟨Nat.zero_le _, Nat.zero_le _⟩ ?_
                  refine Z_aload_n 59 rfl rfl rfl ?_
                  refine Z_get 60 rfl f_M_15 rfl rfl ?_
                  refine Z_iload_n 61 rfl rfl rfl ?_
                  refine Z_ia 62 rfl rfl (by omega) (by decide) ?_
                  refine Z_isub 63 rfl ?_
                  refine Z_iload 64 rfl rfl ?_
                  refine Z_iadd 65 rfl ?_
                  refine Z_sipush 66 rfl rfl ?_
                  refine Z_icmp_le 67 rfl (tgt := 134) rfl (by omega) (by omega) (fun c127 => ?_) (fun c127 => ?_)
                  · refine Z_aload_n 70 rfl rfl rfl ?_
                    refine Z_iload_n 71 rfl rfl rfl ?_
                    refine Z_iload_n 72 rfl rfl rfl ?_
                    refine Z_callVip (M' := M_M_of) 73 isM rfl l_M_110 C_M_of (c_M_of l p he fa li sl be ov av bl kw sm ma mf mw cj h j what hj hw) (emM ..) (Or.inl ⟨_, _, _, _, rfl, rfl⟩) rfl rfl rfl (Nat.le_of_ble_eq_true rfl) ⟨rfl, rfl, Nat.le_of_ble_eq_true rfl, Nat.le_of_ble_eq_true rfl⟩ ⟨Nat.zero_le _, Nat.zero_le _⟩ ?_
                    rw [show ofF p.t j what = ptOf p.t j what by unfold ofF; rw [cif_t (by omega), cif_t (by omega), if_neg (by omega), if_neg (by omega)]]
                    refine Z_istore 74 rfl (Nat.le_of_ble_eq_true rfl) (lv' := [(7, .int _), (6, .int _), (5, .int _), (4, .int _), (0, .ref _), (1, .int _), (2, .int _), (3, .int _)]) rfl ?_
                    refine Z_aload_n 75 rfl rfl rfl ?_
                    refine Z_get 76 rfl f_M_11 rfl rfl ?_
                    refine Z_iload_n 77 rfl rfl rfl ?_
                    refine Z_iload 78 rfl rfl ?_
                    refine Z_ias 79 rfl rfl (by omega) (by decide) (mem' := eM ((uI p.t.1 j kk, p.t.2), p.2) he fa li sl be ov av bl kw sm ma mf mw cj) rfl ?_
                    refine Z_aload_n 80 rfl rfl rfl ?_
                    refine Z_get 81 rfl f_M_15 rfl rfl ?_
                    refine Z_iload_n 82 rfl rfl rfl ?_
                    refine Z_iload 83 rfl rfl ?_
                    refine Z_ias 84 rfl rfl (by omega) (by decide) (mem' := eM ((uI p.t.1 j kk, uI p.t.2.1 j ll, p.t.2.2), p.2) he fa li sl be ov av bl kw sm ma mf mw cj) rfl ?_
                    refine Z_aload_n 85 rfl rfl rfl ?_
                    refine Z_get 86 rfl f_M_18 rfl rfl ?_
                    refine Z_iload_n 87 rfl rfl rfl ?_
                    refine Z_iload 88 rfl rfl ?_
                    refine Z_ias 89 rfl rfl (by omega) (by decide) (mem' := eM (tW p.t j kk ll rr, p.2) he fa li sl be ov av bl kw sm ma mf mw cj) rfl ?_
                    refine Z_iload 90 rfl rfl ?_
                    refine Z_iret 91 rfl rfl ⟨Nat.le_refl _, Nat.le_refl _⟩ ?_
                    first | (exfalso; omega) | exact ⟨by unfold putF; rw [← hkk, ← hll, ← hrr]; unfold putG mb; repeat (first | rw [cif_t (by first | assumption | omega)] | rw [cif_f (by first | assumption | omega)]), by unfold putF; rw [← hkk, ← hll, ← hrr]; unfold putG mb; (repeat (first | rw [cif_t (by first | assumption | omega)] | rw [cif_f (by first | assumption | omega)])) <;> rfl⟩
                  · try rw [u31] at c107
                    refine Z_sipush 68 rfl rfl ?_
                    refine Z_iret 69 rfl rfl ⟨Nat.le_refl _, Nat.le_refl _⟩ ?_
                    first | (exfalso; omega) | exact ⟨by unfold putF; rw [← hkk, ← hll, ← hrr]; unfold putG mb; repeat (first | rw [cif_t (by first | assumption | omega)] | rw [cif_f (by first | assumption | omega)]), by unfold putF; rw [← hkk, ← hll, ← hrr]; unfold putG mb; (repeat (first | rw [cif_t (by first | assumption | omega)] | rw [cif_f (by first | assumption | omega)])) <;> rfl⟩
          · refine Z_iload_n 34 rfl rfl rfl ?_
            refine Z_goto 35 rfl (tgt := 72) rfl ?_
            refine Z_ci (show _ = rr by rw [hrr]; first | (exfalso; omega) | rw [if_pos (by omega)] | rw [if_neg (by omega)]) ?_
            refine Z_istore 40 rfl (Nat.le_of_ble_eq_true rfl) (lv' := [(6, .int _), (5, .int _), (4, .int _), (0, .ref _), (1, .int _), (2, .int _), (3, .int _)]) rfl ?_
            refine Z_iload 41 rfl rfl ?_
            refine Z_i2l 42 rfl (by omega) ?_
            refine Z_lconst 43 rfl ?_
            refine Z_ldc2 44 rfl k_M_96 (c := 5) rfl ?_
            refine Z_callSbp (M' := M_M_in) 45 [] rfl l_M_80 C_M_in (c_M_in l _ _ _ (by omega) (by omega) (by omega)) ⟨List.nodup_nil, zEL.n⟩ rfl rfl rfl (Nat.le_of_ble_eq_true rfl) ⟨rfl, rfl, Nat.le_of_ble_eq_true rfl, Nat.le_of_ble_eq_true rfl⟩ ⟨Nat.zero_le _, Nat.zero_le _⟩ ?_
            refine Z_ifb_eq 46 rfl (tgt := 130) rfl (fun c84 => ?_) (fun c84 => ?_)
            · try rw [u31] at c107
              refine Z_sipush 68 rfl rfl ?_
              refine Z_iret 69 rfl rfl ⟨Nat.le_refl _, Nat.le_refl _⟩ ?_
              first | (exfalso; omega) | exact ⟨by unfold putF; rw [← hkk, ← hll, ← hrr]; unfold putG mb; repeat (first | rw [cif_t (by first | assumption | omega)] | rw [cif_f (by first | assumption | omega)]), by unfold putF; rw [← hkk, ← hll, ← hrr]; unfold putG mb; (repeat (first | rw [cif_t (by first | assumption | omega)] | rw [cif_f (by first | assumption | omega)])) <;> rfl⟩
            · refine Z_iload 47 rfl rfl ?_
              refine Z_i2l 48 rfl (by omega) ?_
              refine Z_lconst 49 rfl ?_
              refine Z_ldc2 50 rfl k_M_98 (c := 360) rfl ?_
              refine Z_callSbp (M' := M_M_in) 51 [] rfl l_M_80 C_M_in (c_M_in l _ _ _ (by omega) (by omega) (by omega)) ⟨List.nodup_nil, zEL.n⟩ rfl rfl rfl (Nat.le_of_ble_eq_true rfl) ⟨rfl, rfl, Nat.le_of_ble_eq_true rfl, Nat.le_of_ble_eq_true rfl⟩ ⟨Nat.zero_le _, Nat.zero_le _⟩ ?_
              refine Z_ifb_eq 52 rfl (tgt := 130) rfl (fun c97 => ?_) (fun c97 => ?_)
              · try rw [u31] at c107
                refine Z_sipush 68 rfl rfl ?_
                refine Z_iret 69 rfl rfl ⟨Nat.le_refl _, Nat.le_refl _⟩ ?_
                first | (exfalso; omega) | exact ⟨by unfold putF; rw [← hkk, ← hll, ← hrr]; unfold putG mb; repeat (first | rw [cif_t (by first | assumption | omega)] | rw [cif_f (by first | assumption | omega)]), by unfold putF; rw [← hkk, ← hll, ← hrr]; unfold putG mb; (repeat (first | rw [cif_t (by first | assumption | omega)] | rw [cif_f (by first | assumption | omega)])) <;> rfl⟩
              · refine Z_iload 53 rfl rfl ?_
                refine Z_iload 54 rfl rfl ?_
                refine Z_callSbp (M' := M_M_isRise) 55 [] rfl l_M_100 C_M_isRise (c_M_isRise l kk rr ik ir) ⟨List.nodup_nil, zEL.n⟩ rfl rfl rfl (Nat.le_of_ble_eq_true rfl) ⟨rfl, rfl, Nat.le_of_ble_eq_true rfl, Nat.le_of_ble_eq_true rfl⟩ ⟨Nat.zero_le _, Nat.zero_le _⟩ ?_
                have u31 : isR kk rr ↔ (kk = 0 ∧ rr = 0) ∨ (kk ≠ 0 ∧ (-99 ≤ rr ∧ rr ≤ 99) ∧ rr ≠ 0) := Iff.rfl
                refine Z_ifb_eq 56 rfl (tgt := 130) rfl (fun c107 => ?_) (fun c107 => ?_)
                · try rw [u31] at c107
                  refine Z_sipush 68 rfl rfl ?_
                  refine Z_iret 69 rfl rfl ⟨Nat.le_refl _, Nat.le_refl _⟩ ?_
                  first | (exfalso; omega) | exact ⟨by unfold putF; rw [← hkk, ← hll, ← hrr]; unfold putG mb; repeat (first | rw [cif_t (by first | assumption | omega)] | rw [cif_f (by first | assumption | omega)]), by unfold putF; rw [← hkk, ← hll, ← hrr]; unfold putG mb; (repeat (first | rw [cif_t (by first | assumption | omega)] | rw [cif_f (by first | assumption | omega)])) <;> rfl⟩
                · rw [u31] at c107
                  refine Z_aload_n 57 rfl rfl rfl ?_
                  refine Z_callVip (M' := M_M_total) 58 isM rfl l_M_88 C_M_total (c_M_total l p he fa li sl be ov av bl kw sm ma mf mw cj h.1.1) (emM ..) (Or.inl ⟨_, _, _, _, rfl, rfl⟩) rfl rfl rfl (Nat.le_of_ble_eq_true rfl) ⟨rfl, rfl, Nat.le_of_ble_eq_true rfl, Nat.le_of_ble_eq_true rfl⟩ ⟨Nat.zero_le _, Nat.zero_le _⟩ ?_
                  refine Z_aload_n 59 rfl rfl rfl ?_
                  refine Z_get 60 rfl f_M_15 rfl rfl ?_
                  refine Z_iload_n 61 rfl rfl rfl ?_
                  refine Z_ia 62 rfl rfl (by omega) (by decide) ?_
                  refine Z_isub 63 rfl ?_
                  refine Z_iload 64 rfl rfl ?_
                  refine Z_iadd 65 rfl ?_
                  refine Z_sipush 66 rfl rfl ?_
                  refine Z_icmp_le 67 rfl (tgt := 134) rfl (by omega) (by omega) (fun c127 => ?_) (fun c127 => ?_)
                  · refine Z_aload_n 70 rfl rfl rfl ?_
                    refine Z_iload_n 71 rfl rfl rfl ?_
                    refine Z_iload_n 72 rfl rfl rfl ?_
                    refine Z_callVip (M' := M_M_of) 73 isM rfl l_M_110 C_M_of (c_M_of l p he fa li sl be ov av bl kw sm ma mf mw cj h j what hj hw) (emM ..) (Or.inl ⟨_, _, _, _, rfl, rfl⟩) rfl rfl rfl (Nat.le_of_ble_eq_true rfl) ⟨rfl, rfl, Nat.le_of_ble_eq_true rfl, Nat.le_of_ble_eq_true rfl⟩ ⟨Nat.zero_le _, Nat.zero_le _⟩ ?_
                    rw [show ofF p.t j what = ptOf p.t j what by unfold ofF; rw [cif_t (by omega), cif_t (by omega), if_neg (by omega), if_neg (by omega)]]
                    refine Z_istore 74 rfl (Nat.le_of_ble_eq_true rfl) (lv' := [(7, .int _), (6, .int _), (5, .int _), (4, .int _), (0, .ref _), (1, .int _), (2, .int _), (3, .int _)]) rfl ?_
                    refine Z_aload_n 75 rfl rfl rfl ?_
                    refine Z_get 76 rfl f_M_11 rfl rfl ?_
                    refine Z_iload_n 77 rfl rfl rfl ?_
                    refine Z_iload 78 rfl rfl ?_
                    refine Z_ias 79 rfl rfl (by omega) (by decide) (mem' := eM ((uI p.t.1 j kk, p.t.2), p.2) he fa li sl be ov av bl kw sm ma mf mw cj) rfl ?_
                    refine Z_aload_n 80 rfl rfl rfl ?_
                    refine Z_get 81 rfl f_M_15 rfl rfl ?_
                    refine Z_iload_n 82 rfl rfl rfl ?_
                    refine Z_iload 83 rfl rfl ?_
                    refine Z_ias 84 rfl rfl (by omega) (by decide) (mem' := eM ((uI p.t.1 j kk, uI p.t.2.1 j ll, p.t.2.2), p.2) he fa li sl be ov av bl kw sm ma mf mw cj) rfl ?_
                    refine Z_aload_n 85 rfl rfl rfl ?_
                    refine Z_get 86 rfl f_M_18 rfl rfl ?_
                    refine Z_iload_n 87 rfl rfl rfl ?_
                    refine Z_iload 88 rfl rfl ?_
                    refine Z_ias 89 rfl rfl (by omega) (by decide) (mem' := eM (tW p.t j kk ll rr, p.2) he fa li sl be ov av bl kw sm ma mf mw cj) rfl ?_
                    refine Z_iload 90 rfl rfl ?_
                    refine Z_iret 91 rfl rfl ⟨Nat.le_refl _, Nat.le_refl _⟩ ?_
                    first | (exfalso; omega) | exact ⟨by unfold putF; rw [← hkk, ← hll, ← hrr]; unfold putG mb; repeat (first | rw [cif_t (by first | assumption | omega)] | rw [cif_f (by first | assumption | omega)]), by unfold putF; rw [← hkk, ← hll, ← hrr]; unfold putG mb; (repeat (first | rw [cif_t (by first | assumption | omega)] | rw [cif_f (by first | assumption | omega)])) <;> rfl⟩
                  · try rw [u31] at c107
                    refine Z_sipush 68 rfl rfl ?_
                    refine Z_iret 69 rfl rfl ⟨Nat.le_refl _, Nat.le_refl _⟩ ?_
                    first | (exfalso; omega) | exact ⟨by unfold putF; rw [← hkk, ← hll, ← hrr]; unfold putG mb; repeat (first | rw [cif_t (by first | assumption | omega)] | rw [cif_f (by first | assumption | omega)]), by unfold putF; rw [← hkk, ← hll, ← hrr]; unfold putG mb; (repeat (first | rw [cif_t (by first | assumption | omega)] | rw [cif_f (by first | assumption | omega)])) <;> rfl⟩
        · refine Z_iload_n 24 rfl rfl rfl ?_
          refine Z_goto 25 rfl (tgt := 55) rfl ?_
          refine Z_ci (show _ = ll by rw [hll]; first | (exfalso; omega) | rw [if_pos (by omega)] | rw [if_neg (by omega)]) ?_
          refine Z_istore 30 rfl (Nat.le_of_ble_eq_true rfl) (lv' := [(5, .int _), (4, .int _), (0, .ref _), (1, .int _), (2, .int _), (3, .int _)]) rfl ?_
          refine Z_iload_n 31 rfl rfl rfl ?_
          refine Z_iconst 32 rfl ?_
          refine Z_icmp_ne 33 rfl (tgt := 66) rfl (by omega) (by omega) (fun c59 => ?_) (fun c59 => ?_)
          · refine Z_aload_n 36 rfl rfl rfl ?_
            refine Z_get 37 rfl f_M_18 rfl rfl ?_
            refine Z_iload_n 38 rfl rfl rfl ?_
            refine Z_ia 39 rfl rfl (by omega) (by decide) ?_
            refine Z_ci (show _ = rr by rw [hrr]; first | (exfalso; omega) | rw [if_pos (by omega)] | rw [if_neg (by omega)]) ?_
            refine Z_istore 40 rfl (Nat.le_of_ble_eq_true rfl) (lv' := [(6, .int _), (5, .int _), (4, .int _), (0, .ref _), (1, .int _), (2, .int _), (3, .int _)]) rfl ?_
            refine Z_iload 41 rfl rfl ?_
            refine Z_i2l 42 rfl (by omega) ?_
            refine Z_lconst 43 rfl ?_
            refine Z_ldc2 44 rfl k_M_96 (c := 5) rfl ?_
            refine Z_callSbp (M' := M_M_in) 45 [] rfl l_M_80 C_M_in (c_M_in l _ _ _ (by omega) (by omega) (by omega)) ⟨List.nodup_nil, zEL.n⟩ rfl rfl rfl (Nat.le_of_ble_eq_true rfl) ⟨rfl, rfl, Nat.le_of_ble_eq_true rfl, Nat.le_of_ble_eq_true rfl⟩ ⟨Nat.zero_le _, Nat.zero_le _⟩ ?_
            refine Z_ifb_eq 46 rfl (tgt := 130) rfl (fun c84 => ?_) (fun c84 => ?_)
            · try rw [u31] at c107
              refine Z_sipush 68 rfl rfl ?_
              refine Z_iret 69 rfl rfl ⟨Nat.le_refl _, Nat.le_refl _⟩ ?_
              first | (exfalso; omega) | exact ⟨by unfold putF; rw [← hkk, ← hll, ← hrr]; unfold putG mb; repeat (first | rw [cif_t (by first | assumption | omega)] | rw [cif_f (by first | assumption | omega)]), by unfold putF; rw [← hkk, ← hll, ← hrr]; unfold putG mb; (repeat (first | rw [cif_t (by first | assumption | omega)] | rw [cif_f (by first | assumption | omega)])) <;> rfl⟩
            · refine Z_iload 47 rfl rfl ?_
              refine Z_i2l 48 rfl (by omega) ?_
              refine Z_lconst 49 rfl ?_
              refine Z_ldc2 50 rfl k_M_98 (c := 360) rfl ?_
              refine Z_callSbp (M' := M_M_in) 51 [] rfl l_M_80 C_M_in (c_M_in l _ _ _ (by omega) (by omega) (by omega)) ⟨List.nodup_nil, zEL.n⟩ rfl rfl rfl (Nat.le_of_ble_eq_true rfl) ⟨rfl, rfl, Nat.le_of_ble_eq_true rfl, Nat.le_of_ble_eq_true rfl⟩ ⟨Nat.zero_le _, Nat.zero_le _⟩ ?_
              refine Z_ifb_eq 52 rfl (tgt := 130) rfl (fun c97 => ?_) (fun c97 => ?_)
              · try rw [u31] at c107
                refine Z_sipush 68 rfl rfl ?_
                refine Z_iret 69 rfl rfl ⟨Nat.le_refl _, Nat.le_refl _⟩ ?_
                first | (exfalso; omega) | exact ⟨by unfold putF; rw [← hkk, ← hll, ← hrr]; unfold putG mb; repeat (first | rw [cif_t (by first | assumption | omega)] | rw [cif_f (by first | assumption | omega)]), by unfold putF; rw [← hkk, ← hll, ← hrr]; unfold putG mb; (repeat (first | rw [cif_t (by first | assumption | omega)] | rw [cif_f (by first | assumption | omega)])) <;> rfl⟩
              · refine Z_iload 53 rfl rfl ?_
                refine Z_iload 54 rfl rfl ?_
                refine Z_callSbp (M' := M_M_isRise) 55 [] rfl l_M_100 C_M_isRise (c_M_isRise l kk rr ik ir) ⟨List.nodup_nil, zEL.n⟩ rfl rfl rfl (Nat.le_of_ble_eq_true rfl) ⟨rfl, rfl, Nat.le_of_ble_eq_true rfl, Nat.le_of_ble_eq_true rfl⟩ ⟨Nat.zero_le _, Nat.zero_le _⟩ ?_
                have u31 : isR kk rr ↔ (kk = 0 ∧ rr = 0) ∨ (kk ≠ 0 ∧ (-99 ≤ rr ∧ rr ≤ 99) ∧ rr ≠ 0) := Iff.rfl
                refine Z_ifb_eq 56 rfl (tgt := 130) rfl (fun c107 => ?_) (fun c107 => ?_)
                · try rw [u31] at c107
                  refine Z_sipush 68 rfl rfl ?_
                  refine Z_iret 69 rfl rfl ⟨Nat.le_refl _, Nat.le_refl _⟩ ?_
                  first | (exfalso; omega) | exact ⟨by unfold putF; rw [← hkk, ← hll, ← hrr]; unfold putG mb; repeat (first | rw [cif_t (by first | assumption | omega)] | rw [cif_f (by first | assumption | omega)]), by unfold putF; rw [← hkk, ← hll, ← hrr]; unfold putG mb; (repeat (first | rw [cif_t (by first | assumption | omega)] | rw [cif_f (by first | assumption | omega)])) <;> rfl⟩
                · rw [u31] at c107
                  refine Z_aload_n 57 rfl rfl rfl ?_
                  refine Z_callVip (M' := M_M_total) 58 isM rfl l_M_88 C_M_total (c_M_total l p he fa li sl be ov av bl kw sm ma mf mw cj h.1.1) (emM ..) (Or.inl ⟨_, _, _, _, rfl, rfl⟩) rfl rfl rfl (Nat.le_of_ble_eq_true rfl) ⟨rfl, rfl, Nat.le_of_ble_eq_true rfl, Nat.le_of_ble_eq_true rfl⟩ ⟨Nat.zero_le _, Nat.zero_le _⟩ ?_
                  refine Z_aload_n 59 rfl rfl rfl ?_
                  refine Z_get 60 rfl f_M_15 rfl rfl ?_
                  refine Z_iload_n 61 rfl rfl rfl ?_
                  refine Z_ia 62 rfl rfl (by omega) (by decide) ?_
                  refine Z_isub 63 rfl ?_
                  refine Z_iload 64 rfl rfl ?_
                  refine Z_iadd 65 rfl ?_
                  refine Z_sipush 66 rfl rfl ?_
                  refine Z_icmp_le 67 rfl (tgt := 134) rfl (by omega) (by omega) (fun c127 => ?_) (fun c127 => ?_)
                  · refine Z_aload_n 70 rfl rfl rfl ?_
                    refine Z_iload_n 71 rfl rfl rfl ?_
                    refine Z_iload_n 72 rfl rfl rfl ?_
                    refine Z_callVip (M' := M_M_of) 73 isM rfl l_M_110 C_M_of (c_M_of l p he fa li sl be ov av bl kw sm ma mf mw cj h j what hj hw) (emM ..) (Or.inl ⟨_, _, _, _, rfl, rfl⟩) rfl rfl rfl (Nat.le_of_ble_eq_true rfl) ⟨rfl, rfl, Nat.le_of_ble_eq_true rfl, Nat.le_of_ble_eq_true rfl⟩ ⟨Nat.zero_le _, Nat.zero_le _⟩ ?_
                    rw [show ofF p.t j what = ptOf p.t j what by unfold ofF; rw [cif_t (by omega), cif_t (by omega), if_neg (by omega), if_neg (by omega)]]
                    refine Z_istore 74 rfl (Nat.le_of_ble_eq_true rfl) (lv' := [(7, .int _), (6, .int _), (5, .int _), (4, .int _), (0, .ref _), (1, .int _), (2, .int _), (3, .int _)]) rfl ?_
                    refine Z_aload_n 75 rfl rfl rfl ?_
                    refine Z_get 76 rfl f_M_11 rfl rfl ?_
                    refine Z_iload_n 77 rfl rfl rfl ?_
                    refine Z_iload 78 rfl rfl ?_
                    refine Z_ias 79 rfl rfl (by omega) (by decide) (mem' := eM ((uI p.t.1 j kk, p.t.2), p.2) he fa li sl be ov av bl kw sm ma mf mw cj) rfl ?_
                    refine Z_aload_n 80 rfl rfl rfl ?_
                    refine Z_get 81 rfl f_M_15 rfl rfl ?_
                    refine Z_iload_n 82 rfl rfl rfl ?_
                    refine Z_iload 83 rfl rfl ?_
                    refine Z_ias 84 rfl rfl (by omega) (by decide) (mem' := eM ((uI p.t.1 j kk, uI p.t.2.1 j ll, p.t.2.2), p.2) he fa li sl be ov av bl kw sm ma mf mw cj) rfl ?_
                    refine Z_aload_n 85 rfl rfl rfl ?_
                    refine Z_get 86 rfl f_M_18 rfl rfl ?_
                    refine Z_iload_n 87 rfl rfl rfl ?_
                    refine Z_iload 88 rfl rfl ?_
                    refine Z_ias 89 rfl rfl (by omega) (by decide) (mem' := eM (tW p.t j kk ll rr, p.2) he fa li sl be ov av bl kw sm ma mf mw cj) rfl ?_
                    refine Z_iload 90 rfl rfl ?_
                    refine Z_iret 91 rfl rfl ⟨Nat.le_refl _, Nat.le_refl _⟩ ?_
                    first | (exfalso; omega) | exact ⟨by unfold putF; rw [← hkk, ← hll, ← hrr]; unfold putG mb; repeat (first | rw [cif_t (by first | assumption | omega)] | rw [cif_f (by first | assumption | omega)]), by unfold putF; rw [← hkk, ← hll, ← hrr]; unfold putG mb; (repeat (first | rw [cif_t (by first | assumption | omega)] | rw [cif_f (by first | assumption | omega)])) <;> rfl⟩
                  · try rw [u31] at c107
                    refine Z_sipush 68 rfl rfl ?_
                    refine Z_iret 69 rfl rfl ⟨Nat.le_refl _, Nat.le_refl _⟩ ?_
                    first | (exfalso; omega) | exact ⟨by unfold putF; rw [← hkk, ← hll, ← hrr]; unfold putG mb; repeat (first | rw [cif_t (by first | assumption | omega)] | rw [cif_f (by first | assumption | omega)]), by unfold putF; rw [← hkk, ← hll, ← hrr]; unfold putG mb; (repeat (first | rw [cif_t (by first | assumption | omega)] | rw [cif_f (by first | assumption | omega)])) <;> rfl⟩
          · refine Z_iload_n 34 rfl rfl rfl ?_
            refine Z_goto 35 rfl (tgt := 72) rfl ?_
            refine Z_ci (show _ = rr by rw [hrr]; first | (exfalso; omega) | rw [if_pos (by omega)] | rw [if_neg (by omega)]) ?_
            refine Z_istore 40 rfl (Nat.le_of_ble_eq_true rfl) (lv' := [(6, .int _), (5, .int _), (4, .int _), (0, .ref _), (1, .int _), (2, .int _), (3, .int _)]) rfl ?_
            refine Z_iload 41 rfl rfl ?_
            refine Z_i2l 42 rfl (by omega) ?_
            refine Z_lconst 43 rfl ?_
            refine Z_ldc2 44 rfl k_M_96 (c := 5) rfl ?_
            refine Z_callSbp (M' := M_M_in) 45 [] rfl l_M_80 C_M_in (c_M_in l _ _ _ (by omega) (by omega) (by omega)) ⟨List.nodup_nil, zEL.n⟩ rfl rfl rfl (Nat.le_of_ble_eq_true rfl) ⟨rfl, rfl, Nat.le_of_ble_eq_true rfl, Nat.le_of_ble_eq_true rfl⟩ ⟨Nat.zero_le _, Nat.zero_le _⟩ ?_
            refine Z_ifb_eq 46 rfl (tgt := 130) rfl (fun c84 => ?_) (fun c84 => ?_)
            · try rw [u31] at c107
              refine Z_sipush 68 rfl rfl ?_
              refine Z_iret 69 rfl rfl ⟨Nat.le_refl _, Nat.le_refl _⟩ ?_
              first | (exfalso; omega) | exact ⟨by unfold putF; rw [← hkk, ← hll, ← hrr]; unfold putG mb; repeat (first | rw [cif_t (by first | assumption | omega)] | rw [cif_f (by first | assumption | omega)]), by unfold putF; rw [← hkk, ← hll, ← hrr]; unfold putG mb; (repeat (first | rw [cif_t (by first | assumption | omega)] | rw [cif_f (by first | assumption | omega)])) <;> rfl⟩
            · refine Z_iload 47 rfl rfl ?_
              refine Z_i2l 48 rfl (by omega) ?_
              refine Z_lconst 49 rfl ?_
              refine Z_ldc2 50 rfl k_M_98 (c := 360) rfl ?_
              refine Z_callSbp (M' := M_M_in) 51 [] rfl l_M_80 C_M_in (c_M_in l _ _ _ (by omega) (by omega) (by omega)) ⟨List.nodup_nil, zEL.n⟩ rfl rfl rfl (Nat.le_of_ble_eq_true rfl) ⟨rfl, rfl, Nat.le_of_ble_eq_true rfl, Nat.le_of_ble_eq_true rfl⟩ ⟨Nat.zero_le _, Nat.zero_le _⟩ ?_
              refine Z_ifb_eq 52 rfl (tgt := 130) rfl (fun c97 => ?_) (fun c97 => ?_)
              · try rw [u31] at c107
                refine Z_sipush 68 rfl rfl ?_
                refine Z_iret 69 rfl rfl ⟨Nat.le_refl _, Nat.le_refl _⟩ ?_
                first | (exfalso; omega) | exact ⟨by unfold putF; rw [← hkk, ← hll, ← hrr]; unfold putG mb; repeat (first | rw [cif_t (by first | assumption | omega)] | rw [cif_f (by first | assumption | omega)]), by unfold putF; rw [← hkk, ← hll, ← hrr]; unfold putG mb; (repeat (first | rw [cif_t (by first | assumption | omega)] | rw [cif_f (by first | assumption | omega)])) <;> rfl⟩
              · refine Z_iload 53 rfl rfl ?_
                refine Z_iload 54 rfl rfl ?_
                refine Z_callSbp (M' := M_M_isRise) 55 [] rfl l_M_100 C_M_isRise (c_M_isRise l kk rr ik ir) ⟨List.nodup_nil, zEL.n⟩ rfl rfl rfl (Nat.le_of_ble_eq_true rfl) ⟨rfl, rfl, Nat.le_of_ble_eq_true rfl, Nat.le_of_ble_eq_true rfl⟩ ⟨Nat.zero_le _, Nat.zero_le _⟩ ?_
                have u31 : isR kk rr ↔ (kk = 0 ∧ rr = 0) ∨ (kk ≠ 0 ∧ (-99 ≤ rr ∧ rr ≤ 99) ∧ rr ≠ 0) := Iff.rfl
                refine Z_ifb_eq 56 rfl (tgt := 130) rfl (fun c107 => ?_) (fun c107 => ?_)
                · try rw [u31] at c107
                  refine Z_sipush 68 rfl rfl ?_
                  refine Z_iret 69 rfl rfl ⟨Nat.le_refl _, Nat.le_refl _⟩ ?_
                  first | (exfalso; omega) | exact ⟨by unfold putF; rw [← hkk, ← hll, ← hrr]; unfold putG mb; repeat (first | rw [cif_t (by first | assumption | omega)] | rw [cif_f (by first | assumption | omega)]), by unfold putF; rw [← hkk, ← hll, ← hrr]; unfold putG mb; (repeat (first | rw [cif_t (by first | assumption | omega)] | rw [cif_f (by first | assumption | omega)])) <;> rfl⟩
                · rw [u31] at c107
                  refine Z_aload_n 57 rfl rfl rfl ?_
                  refine Z_callVip (M' := M_M_total) 58 isM rfl l_M_88 C_M_total (c_M_total l p he fa li sl be ov av bl kw sm ma mf mw cj h.1.1) (emM ..) (Or.inl ⟨_, _, _, _, rfl, rfl⟩) rfl rfl rfl (Nat.le_of_ble_eq_true rfl) ⟨rfl, rfl, Nat.le_of_ble_eq_true rfl, Nat.le_of_ble_eq_true rfl⟩ ⟨Nat.zero_le _, Nat.zero_le _⟩ ?_
                  refine Z_aload_n 59 rfl rfl rfl ?_
                  refine Z_get 60 rfl f_M_15 rfl rfl ?_
                  refine Z_iload_n 61 rfl rfl rfl ?_
                  refine Z_ia 62 rfl rfl (by omega) (by decide) ?_
                  refine Z_isub 63 rfl ?_
                  refine Z_iload 64 rfl rfl ?_
                  refine Z_iadd 65 rfl ?_
                  refine Z_sipush 66 rfl rfl ?_
                  refine Z_icmp_le 67 rfl (tgt := 134) rfl (by omega) (by omega) (fun c127 => ?_) (fun c127 => ?_)
                  · refine Z_aload_n 70 rfl rfl rfl ?_
                    refine Z_iload_n 71 rfl rfl rfl ?_
                    refine Z_iload_n 72 rfl rfl rfl ?_
                    refine Z_callVip (M' := M_M_of) 73 isM rfl l_M_110 C_M_of (c_M_of l p he fa li sl be ov av bl kw sm ma mf mw cj h j what hj hw) (emM ..) (Or.inl ⟨_, _, _, _, rfl, rfl⟩) rfl rfl rfl (Nat.le_of_ble_eq_true rfl) ⟨rfl, rfl, Nat.le_of_ble_eq_true rfl, Nat.le_of_ble_eq_true rfl⟩ ⟨Nat.zero_le _, Nat.zero_le _⟩ ?_
                    rw [show ofF p.t j what = ptOf p.t j what by unfold ofF; rw [cif_t (by omega), cif_t (by omega), if_neg (by omega), if_neg (by omega)]]
                    refine Z_istore 74 rfl (Nat.le_of_ble_eq_true rfl) (lv' := [(7, .int _), (6, .int _), (5, .int _), (4, .int _), (0, .ref _), (1, .int _), (2, .int _), (3, .int _)]) rfl ?_
                    refine Z_aload_n 75 rfl rfl rfl ?_
                    refine Z_get 76 rfl f_M_11 rfl rfl ?_
                    refine Z_iload_n 77 rfl rfl rfl ?_
                    refine Z_iload 78 rfl rfl ?_
                    refine Z_ias 79 rfl rfl (by omega) (by decide) (mem' := eM ((uI p.t.1 j kk, p.t.2), p.2) he fa li sl be ov av bl kw sm ma mf mw cj) rfl ?_
                    refine Z_aload_n 80 rfl rfl rfl ?_
                    refine Z_get 81 rfl f_M_15 rfl rfl ?_
                    refine Z_iload_n 82 rfl rfl rfl ?_
                    refine Z_iload 83 rfl rfl ?_
                    refine Z_ias 84 rfl rfl (by omega) (by decide) (mem' := eM ((uI p.t.1 j kk, uI p.t.2.1 j ll, p.t.2.2), p.2) he fa li sl be ov av bl kw sm ma mf mw cj) rfl ?_
                    refine Z_aload_n 85 rfl rfl rfl ?_
                    refine Z_get 86 rfl f_M_18 rfl rfl ?_
                    refine Z_iload_n 87 rfl rfl rfl ?_
                    refine Z_iload 88 rfl rfl ?_
                    refine Z_ias 89 rfl rfl (by omega) (by decide) (mem' := eM (tW p.t j kk ll rr, p.2) he fa li sl be ov av bl kw sm ma mf mw cj) rfl ?_
                    refine Z_iload 90 rfl rfl ?_
                    refine Z_iret 91 rfl rfl ⟨Nat.le_refl _, Nat.le_refl _⟩ ?_
                    first | (exfalso; omega) | exact ⟨by unfold putF; rw [← hkk, ← hll, ← hrr]; unfold putG mb; repeat (first | rw [cif_t (by first | assumption | omega)] | rw [cif_f (by first | assumption | omega)]), by unfold putF; rw [← hkk, ← hll, ← hrr]; unfold putG mb; (repeat (first | rw [cif_t (by first | assumption | omega)] | rw [cif_f (by first | assumption | omega)])) <;> rfl⟩
                  · try rw [u31] at c107
                    refine Z_sipush 68 rfl rfl ?_
                    refine Z_iret 69 rfl rfl ⟨Nat.le_refl _, Nat.le_refl _⟩ ?_
                    first | (exfalso; omega) | exact ⟨by unfold putF; rw [← hkk, ← hll, ← hrr]; unfold putG mb; repeat (first | rw [cif_t (by first | assumption | omega)] | rw [cif_f (by first | assumption | omega)]), by unfold putF; rw [← hkk, ← hll, ← hrr]; unfold putG mb; (repeat (first | rw [cif_t (by first | assumption | omega)] | rw [cif_f (by first | assumption | omega)])) <;> rfl⟩
    · refine Z_sipush 10 rfl rfl ?_
      refine Z_iret 11 rfl rfl ⟨Nat.le_refl _, Nat.le_refl _⟩ ?_
      first | (exfalso; omega) | exact ⟨by unfold putF; rw [← hkk, ← hll, ← hrr]; unfold putG mb; repeat (first | rw [cif_t (by first | assumption | omega)] | rw [cif_f (by first | assumption | omega)]), by unfold putF; rw [← hkk, ← hll, ← hrr]; unfold putG mb; (repeat (first | rw [cif_t (by first | assumption | omega)] | rw [cif_f (by first | assumption | omega)])) <;> rfl⟩
theorem moM_e {i : Int} (h : 0 ≤ i ∧ i < 6) : moM i = moF i := by
  rcases (show i = 0 ∨ i = 1 ∨ i = 2 ∨ i = 3 ∨ i = 4 ∨ i = 5 by omega) with e | e | e | e | e | e <;> subst e <;> rfl
theorem c_M_tell (h : MV p) (what v : Int) (hw : inI what) (hv : inI v) : Con l M_M_tell R_M_tell 0 0 false [.ref 0, .int (iI what), .int (iI v)] (eM p he fa li sl be ov av bl kw sm ma mf mw cj) (zAi (tellF p.s what v).1 (fun m => m = eM (p.t, (tellF p.s what v).2, p.2.2) he fa li sl be ov av bl kw sm ma mf mw cj)) := by
  have h1 := leF_in what
  have h2 := moF_in what
  refine Con.of_Z (by decide) D_M_tell (Nat.le_of_ble_eq_true rfl) ?_
  refine Z_iload_n 0 rfl rfl rfl ?_
  refine Z_i2l 1 rfl (by omega) ?_
  refine Z_lconst 2 rfl ?_
  refine Z_ldc2 3 rfl k_M_96 (c := 5) rfl ?_
  refine Z_callSbp (M' := M_M_in) 4 [] rfl l_M_80 C_M_in (c_M_in l _ _ _ (by omega) (by omega) (by omega)) ⟨List.nodup_nil, zEL.n⟩ rfl rfl rfl (Nat.le_of_ble_eq_true rfl) ⟨rfl, rfl, Nat.le_of_ble_eq_true rfl, Nat.le_of_ble_eq_true rfl⟩ ⟨Nat.zero_le _, Nat.zero_le _⟩ ?_
  refine Z_ifb_ne 5 rfl (tgt := 14) rfl (fun c9 => ?_) (fun c9 => ?_)
  · refine Z_iload_n 8 rfl rfl rfl ?_
    refine Z_i2l 9 rfl (by omega) ?_
    refine Z_aload_n 10 rfl rfl rfl ?_
    refine Z_get 11 rfl f_M_24 rfl rfl ?_
    refine Z_iload_n 12 rfl rfl rfl ?_
    refine Z_ia 13 rfl rfl (by omega) (by decide) ?_
    refine Z_i2l 14 rfl (by omega) ?_
    refine Z_aload_n 15 rfl rfl rfl ?_
    refine Z_get 16 rfl f_M_27 rfl rfl ?_
    refine Z_iload_n 17 rfl rfl rfl ?_
    refine Z_ia 18 rfl rfl (by omega) (by decide) ?_
    refine Z_ci (moM_e (by omega)) ?_
    refine Z_i2l 19 rfl (by omega) ?_
    refine Z_callSbp (M' := M_M_in) 20 [] rfl l_M_80 C_M_in (c_M_in l _ _ _ (by omega) (by omega) (by omega)) ⟨List.nodup_nil, zEL.n⟩ rfl rfl rfl (Nat.le_of_ble_eq_true rfl) ⟨rfl, rfl, Nat.le_of_ble_eq_true rfl, Nat.le_of_ble_eq_true rfl⟩ ⟨Nat.zero_le _, Nat.zero_le _⟩ ?_
    refine Z_ifb_ne 21 rfl (tgt := 39) rfl (fun c33 => ?_) (fun c33 => ?_)
    · refine Z_aload_n 24 rfl rfl rfl ?_
      refine Z_get 25 rfl f_M_21 rfl rfl ?_
      refine Z_iload_n 26 rfl rfl rfl ?_
      refine Z_ia 27 rfl rfl (by omega) (by decide) ?_
      refine Z_istore_n 28 rfl rfl (Nat.le_of_ble_eq_true rfl) (lv' := [(3, .int _), (0, .ref _), (1, .int _), (2, .int _)]) rfl ?_
      refine Z_aload_n 29 rfl rfl rfl ?_
      refine Z_get 30 rfl f_M_21 rfl rfl ?_
      refine Z_iload_n 31 rfl rfl rfl ?_
      refine Z_iload_n 32 rfl rfl rfl ?_
      refine Z_ias 33 rfl rfl (by omega) (by decide) (mem' := eM (p.t, uI p.s what v, p.2.2) he fa li sl be ov av bl kw sm ma mf mw cj) rfl ?_
      refine Z_iload_n 34 rfl rfl rfl ?_
      refine Z_iret 35 rfl rfl ⟨Nat.le_refl _, Nat.le_refl _⟩ ?_
      exact ⟨by unfold tellF; repeat (first | rw [cif_t (by first | assumption | omega)] | rw [cif_f (by first | assumption | omega)]), by unfold tellF; (repeat (first | rw [cif_t (by first | assumption | omega)] | rw [cif_f (by first | assumption | omega)])) <;> rfl⟩
    · refine Z_bipush 22 rfl rfl ?_
      refine Z_iret 23 rfl rfl ⟨Nat.le_refl _, Nat.le_refl _⟩ ?_
      exact ⟨by unfold tellF; repeat (first | rw [cif_t (by first | assumption | omega)] | rw [cif_f (by first | assumption | omega)]), by unfold tellF; (repeat (first | rw [cif_t (by first | assumption | omega)] | rw [cif_f (by first | assumption | omega)])) <;> rfl⟩
  · refine Z_iconst 6 rfl ?_
    refine Z_iret 7 rfl rfl ⟨Nat.le_refl _, Nat.le_refl _⟩ ?_
    exact ⟨by unfold tellF; repeat (first | rw [cif_t (by first | assumption | omega)] | rw [cif_f (by first | assumption | omega)]), by unfold tellF; (repeat (first | rw [cif_t (by first | assumption | omega)] | rw [cif_f (by first | assumption | omega)])) <;> rfl⟩
theorem c_M_told (h : MV p) (what : Int) (hw : inI what) : Con l M_M_told R_M_told 0 0 false [.ref 0, .int (iI what)] (eM p he fa li sl be ov av bl kw sm ma mf mw cj) (zAi (toldF p.t p.s p.ts what) (fun m => m = eM p he fa li sl be ov av bl kw sm ma mf mw cj)) := by
  refine Con.of_Z (by decide) D_M_told (Nat.le_of_ble_eq_true rfl) ?_
  refine Z_iload_n 0 rfl rfl rfl ?_
  refine Z_i2l 1 rfl (by omega) ?_
  refine Z_lconst 2 rfl ?_
  refine Z_ldc2 3 rfl k_M_96 (c := 5) rfl ?_
  refine Z_callSbp (M' := M_M_in) 4 [] rfl l_M_80 C_M_in (c_M_in l _ _ _ (by omega) (by omega) (by omega)) ⟨List.nodup_nil, zEL.n⟩ rfl rfl rfl (Nat.le_of_ble_eq_true rfl) ⟨rfl, rfl, Nat.le_of_ble_eq_true rfl, Nat.le_of_ble_eq_true rfl⟩ ⟨Nat.zero_le _, Nat.zero_le _⟩ ?_
  refine Z_ifb_eq 5 rfl (tgt := 19) rfl (fun c9 => ?_) (fun c9 => ?_)
  · refine Z_iload_n 11 rfl rfl rfl ?_
    rcases Classical.em (what < 6 ∨ 9 < what) with cs | cs
    · refine Z_tabOut 12 rfl hw cs (tgt := 80) rfl ?_
      refine Z_iconst 29 rfl ?_
      refine Z_iret 30 rfl rfl ⟨Nat.le_refl _, Nat.le_refl _⟩ ?_
      first | (exfalso; omega) | exact ⟨by unfold toldF; (repeat (first | rw [cif_t (by first | assumption | omega)] | rw [cif_f (by first | assumption | omega)])) <;> first | (subst cs; rfl) | (rw [if_neg (by omega), if_neg (by omega), if_neg (by omega), if_neg (by omega)]), rfl⟩
    rcases (show what = 6 ∨ what = 7 ∨ what = 8 ∨ what = 9 by omega) with cs | cs | cs | cs
    · refine Z_ci cs ?_
      refine Z_tabIn 12 rfl (by decide) (by decide) (by decide) (off := 32) rfl (tgt := 52) rfl ?_
      refine Z_aload_n 13 rfl rfl rfl ?_
      refine Z_get 14 rfl f_M_77 rfl rfl ?_
      refine Z_iret 15 rfl rfl ⟨Nat.le_refl _, Nat.le_refl _⟩ ?_
      first | (exfalso; omega) | exact ⟨by unfold toldF; (repeat (first | rw [cif_t (by first | assumption | omega)] | rw [cif_f (by first | assumption | omega)])) <;> first | (subst cs; rfl) | (rw [if_neg (by omega), if_neg (by omega), if_neg (by omega), if_neg (by omega)]), rfl⟩
    · refine Z_ci cs ?_
      refine Z_tabIn 12 rfl (by decide) (by decide) (by decide) (off := 37) rfl (tgt := 57) rfl ?_
      refine Z_aload_n 16 rfl rfl rfl ?_
      refine Z_callVip (M' := M_M_total) 17 isM rfl l_M_88 C_M_total (c_M_total l p he fa li sl be ov av bl kw sm ma mf mw cj h.1.1) (emM ..) (Or.inl ⟨_, _, _, _, rfl, rfl⟩) rfl rfl rfl (Nat.le_of_ble_eq_true rfl) ⟨rfl, rfl, Nat.le_of_ble_eq_true rfl, Nat.le_of_ble_eq_true rfl⟩ ⟨Nat.zero_le _, Nat.zero_le _⟩ ?_
      refine Z_iret 18 rfl rfl ⟨Nat.le_refl _, Nat.le_refl _⟩ ?_
      first | (exfalso; omega) | exact ⟨by unfold toldF; (repeat (first | rw [cif_t (by first | assumption | omega)] | rw [cif_f (by first | assumption | omega)])) <;> first | (subst cs; rfl) | (rw [if_neg (by omega), if_neg (by omega), if_neg (by omega), if_neg (by omega)]), rfl⟩
    · refine Z_ci cs ?_
      refine Z_tabIn 12 rfl (by decide) (by decide) (by decide) (off := 42) rfl (tgt := 62) rfl ?_
      refine Z_aload_n 19 rfl rfl rfl ?_
      refine Z_callVbp (M' := M_M_isClosed) 20 isM rfl l_M_119 C_M_isClosed (c_M_isClosed l p he fa li sl be ov av bl kw sm ma mf mw cj h.1.1) (emM ..) (Or.inl ⟨_, _, _, _, rfl, rfl⟩) rfl rfl rfl (Nat.le_of_ble_eq_true rfl) ⟨rfl, rfl, Nat.le_of_ble_eq_true rfl, Nat.le_of_ble_eq_true rfl⟩ ⟨Nat.zero_le _, Nat.zero_le _⟩ ?_
      refine Z_ifb_eq 21 rfl (tgt := 73) rfl (fun c66 => ?_) (fun c66 => ?_)
      · refine Z_iconst 24 rfl ?_
        refine Z_iret 25 rfl rfl ⟨Nat.le_refl _, Nat.le_refl _⟩ ?_
        first | (exfalso; omega) | exact ⟨by unfold toldF; rw [cif_f (by omega)]; subst cs; first | (show _ = some (Value.int (iI (bI (clo p.t)))); rw [bI_t c66]) | (show _ = some (Value.int (iI (bI (clo p.t)))); rw [bI_f c66]), rfl⟩
      · refine Z_iconst 22 rfl ?_
        refine Z_goto 23 rfl (tgt := 74) rfl ?_
        refine Z_iret 25 rfl rfl ⟨Nat.le_refl _, Nat.le_refl _⟩ ?_
        first | (exfalso; omega) | exact ⟨by unfold toldF; rw [cif_f (by omega)]; subst cs; first | (show _ = some (Value.int (iI (bI (clo p.t)))); rw [bI_t c66]) | (show _ = some (Value.int (iI (bI (clo p.t)))); rw [bI_f c66]), rfl⟩
    · refine Z_ci cs ?_
      refine Z_tabIn 12 rfl (by decide) (by decide) (by decide) (off := 55) rfl (tgt := 75) rfl ?_
      refine Z_aload_n 26 rfl rfl rfl ?_
      refine Z_get 27 rfl f_M_123 rfl rfl ?_
      refine Z_iret 28 rfl rfl ⟨Nat.le_refl _, Nat.le_refl _⟩ ?_
      first | (exfalso; omega) | exact ⟨by unfold toldF; (repeat (first | rw [cif_t (by first | assumption | omega)] | rw [cif_f (by first | assumption | omega)])) <;> first | (subst cs; rfl) | (rw [if_neg (by omega), if_neg (by omega), if_neg (by omega), if_neg (by omega)]), rfl⟩
  · refine Z_aload_n 6 rfl rfl rfl ?_
    refine Z_get 7 rfl f_M_21 rfl rfl ?_
    refine Z_iload_n 8 rfl rfl rfl ?_
    refine Z_ia 9 rfl rfl (by omega) (by decide) ?_
    refine Z_iret 10 rfl rfl ⟨Nat.le_refl _, Nat.le_refl _⟩ ?_
    first | (exfalso; omega) | exact ⟨by unfold toldF; (repeat (first | rw [cif_t (by first | assumption | omega)] | rw [cif_f (by first | assumption | omega)])) <;> first | (subst cs; rfl) | (rw [if_neg (by omega), if_neg (by omega), if_neg (by omega), if_neg (by omega)]), rfl⟩
theorem c_M_mirrored (k : Int) (hk : inI k) : Con l M_M_mirrored R_M_mirrored 0 0 false [.int (iI k)] [] (zAi (tk k) (fun m => m = [])) := by
  refine Con.of_Z (by decide) D_M_mirrored (Nat.le_of_ble_eq_true rfl) ?_
  refine Z_iload_n 0 rfl rfl rfl ?_
  refine Z_iconst 1 rfl ?_
  refine Z_icmp_ne 2 rfl (tgt := 9) rfl (by omega) (by omega) (fun c2 => ?_) (fun c2 => ?_)
  · refine Z_iload_n 5 rfl rfl rfl ?_
    refine Z_iconst 6 rfl ?_
    refine Z_icmp_ne 7 rfl (tgt := 18) rfl (by omega) (by omega) (fun c11 => ?_) (fun c11 => ?_)
    · refine Z_iload_n 10 rfl rfl rfl ?_
      refine Z_iret 11 rfl rfl ⟨Nat.le_refl _, Nat.le_refl _⟩ ?_
      exact ⟨by unfold tk; first | rw [if_pos (by omega)] | rw [if_neg (by omega), if_pos (by omega)] | rw [if_neg (by omega), if_neg (by omega)], rfl⟩
    · refine Z_iconst 8 rfl ?_
      refine Z_goto 9 rfl (tgt := 19) rfl ?_
      refine Z_iret 11 rfl rfl ⟨Nat.le_refl _, Nat.le_refl _⟩ ?_
      exact ⟨by unfold tk; first | rw [if_pos (by omega)] | rw [if_neg (by omega), if_pos (by omega)] | rw [if_neg (by omega), if_neg (by omega)], rfl⟩
  · refine Z_iconst 3 rfl ?_
    refine Z_goto 4 rfl (tgt := 19) rfl ?_
    refine Z_iret 11 rfl rfl ⟨Nat.le_refl _, Nat.le_refl _⟩ ?_
    exact ⟨by unfold tk; first | rw [if_pos (by omega)] | rw [if_neg (by omega), if_pos (by omega)] | rw [if_neg (by omega), if_neg (by omega)], rfl⟩
theorem lp_M_mirror (h : MV p) : ∀ (d : Nat) (a b : Int), 0 ≤ a → b = p.t.2.2.2 - 1 - a → a ≤ b + 2 → b - a + 2 < d → Z (l, M_M_mirror, R_M_mirror, (0, 0), false, zAi (tot (mirT p.t)) (fun m => m = eM (mirT p.t, p.2) he fa li sl be ov av bl kw sm ma mf mw cj)) 0 0 (eM (tnT p.t a b, p.2) he fa li sl be ov av bl kw sm ma mf mw cj) 9 [(0, .ref 0), (1, .int (iI a)), (2, .int (iI b))] [] := by
  have h1 := h.1.1.1
  intro d
  induction d with
  | zero => intro a b h2 h3 h4 h5; omega
  | succ d ih =>
    intro a b h2 h3 h4 h5
    have ka := h.1.1.2.1 a
    have kb := h.1.1.2.1 b
    have n1 : a ≤ b → (tnT p.t a b).1 a = p.t.1 a ∧ (tnT p.t a b).2.1 a = p.t.2.1 a ∧ (tnT p.t a b).2.2.1 a = p.t.2.2.1 a := fun z => ⟨tnF_in (g := tk) (by omega), tnF_in (g := fun x => x) (by omega), tnF_in (g := fun x => -x) (by omega)⟩
    have n2 : a ≤ b → (tnT p.t a b).1 b = p.t.1 b ∧ (tnT p.t a b).2.1 b = p.t.2.1 b ∧ (tnT p.t a b).2.2.1 b = p.t.2.2.1 b := fun z => ⟨tnF_in (g := tk) (by omega), tnF_in (g := fun x => x) (by omega), tnF_in (g := fun x => -x) (by omega)⟩
    refine Z_iload_n 7 rfl rfl rfl ?_
    refine Z_iload_n 8 rfl rfl rfl ?_
    refine Z_icmp_gt 9 rfl (tgt := 113) rfl (by omega) (by omega) (fun c11 => ?_) (fun c11 => ?_)
    · rw [show tnT p.t a b = mirT p.t by unfold mirT tnT; rw [tnF_all h2 h3 (by omega) (by omega), tnF_all h2 h3 (by omega) (by omega), tnF_all h2 h3 (by omega) (by omega)]]
      refine Z_aload_n 71 rfl rfl rfl ?_
      refine Z_callVip (M' := M_M_total) 72 isM rfl l_M_88 C_M_total (c_M_total l (mirT p.t, p.2) he fa li sl be ov av bl kw sm ma mf mw cj (TV_mir h.1).1) (emM ..) (Or.inl ⟨_, _, _, _, rfl, rfl⟩) rfl rfl rfl (Nat.le_of_ble_eq_true rfl) ⟨rfl, rfl, Nat.le_of_ble_eq_true rfl, Nat.le_of_ble_eq_true rfl⟩ ⟨Nat.zero_le _, Nat.zero_le _⟩ ?_
      refine Z_iret 73 rfl rfl ⟨Nat.le_refl _, Nat.le_refl _⟩ ?_
      exact ⟨rfl, rfl⟩
    · refine Z_aload_n 10 rfl rfl rfl ?_
      refine Z_get 11 rfl f_M_11 rfl rfl ?_
      refine Z_iload_n 12 rfl rfl rfl ?_
      refine Z_ia 13 rfl rfl (by omega) (by decide) ?_
      refine Z_ci (n1 (by omega)).1 ?_
      refine Z_callSip (M' := M_M_mirrored) 14 [] rfl l_M_126 C_M_mirrored (c_M_mirrored l (p.t.1 a) (by omega)) ⟨List.nodup_nil, zEL.n⟩ rfl rfl rfl (Nat.le_of_ble_eq_true rfl) ⟨rfl, rfl, Nat.le_of_ble_eq_true rfl, Nat.le_of_ble_eq_true rfl⟩ ⟨Nat.zero_le _, Nat.zero_le _⟩ ?_
      refine Z_istore_n 15 rfl rfl (Nat.le_of_ble_eq_true rfl) (lv' := [(3, .int _), (0, .ref _), (1, .int _), (2, .int _)]) rfl ?_
      refine Z_aload_n 16 rfl rfl rfl ?_
      refine Z_get 17 rfl f_M_15 rfl rfl ?_
      refine Z_iload_n 18 rfl rfl rfl ?_
      refine Z_ia 19 rfl rfl (by omega) (by decide) ?_
      refine Z_ci (n1 (by omega)).2.1 ?_
      refine Z_istore 20 rfl (Nat.le_of_ble_eq_true rfl) (lv' := [(4, .int _), (3, .int _), (0, .ref _), (1, .int _), (2, .int _)]) rfl ?_
      refine Z_aload_n 21 rfl rfl rfl ?_
      refine Z_get 22 rfl f_M_18 rfl rfl ?_
      refine Z_iload_n 23 rfl rfl rfl ?_
      refine Z_ia 24 rfl rfl (by omega) (by decide) ?_
      refine Z_ci (n1 (by omega)).2.2 ?_
      refine Z_ineg 25 rfl ?_
      refine Z_istore 26 rfl (Nat.le_of_ble_eq_true rfl) (lv' := [(5, .int _), (4, .int _), (3, .int _), (0, .ref _), (1, .int _), (2, .int _)]) rfl ?_
      refine Z_aload_n 27 rfl rfl rfl ?_
      refine Z_get 28 rfl f_M_11 rfl rfl ?_
      refine Z_iload_n 29 rfl rfl rfl ?_
      refine Z_aload_n 30 rfl rfl rfl ?_
      refine Z_get 31 rfl f_M_11 rfl rfl ?_
      refine Z_iload_n 32 rfl rfl rfl ?_
      refine Z_ia 33 rfl rfl (by omega) (by decide) ?_
      refine Z_ci (n2 (by omega)).1 ?_
      refine Z_callSip (M' := M_M_mirrored) 34 [] rfl l_M_126 C_M_mirrored (c_M_mirrored l (p.t.1 b) (by omega)) ⟨List.nodup_nil, zEL.n⟩ rfl rfl rfl (Nat.le_of_ble_eq_true rfl) ⟨rfl, rfl, Nat.le_of_ble_eq_true rfl, Nat.le_of_ble_eq_true rfl⟩ ⟨Nat.zero_le _, Nat.zero_le _⟩ ?_
      refine Z_ias 35 rfl rfl (by omega) (by decide) (mem' := eM ((uI (tnT p.t a b).1 a (tk (p.t.1 b)), (tnT p.t a b).2), p.2) he fa li sl be ov av bl kw sm ma mf mw cj) rfl ?_
      refine Z_aload_n 36 rfl rfl rfl ?_
      refine Z_get 37 rfl f_M_15 rfl rfl ?_
      refine Z_iload_n 38 rfl rfl rfl ?_
      refine Z_aload_n 39 rfl rfl rfl ?_
      refine Z_get 40 rfl f_M_15 rfl rfl ?_
      refine Z_iload_n 41 rfl rfl rfl ?_
      refine Z_ia 42 rfl rfl (by omega) (by decide) ?_
      refine Z_ci (show _ = p.t.2.1 b from (n2 (by omega)).2.1) ?_
      refine Z_ias 43 rfl rfl (by omega) (by decide) (mem' := eM ((uI (tnT p.t a b).1 a (tk (p.t.1 b)), uI (tnT p.t a b).2.1 a (p.t.2.1 b), (tnT p.t a b).2.2), p.2) he fa li sl be ov av bl kw sm ma mf mw cj) rfl ?_
      refine Z_aload_n 44 rfl rfl rfl ?_
      refine Z_get 45 rfl f_M_18 rfl rfl ?_
      refine Z_iload_n 46 rfl rfl rfl ?_
      refine Z_aload_n 47 rfl rfl rfl ?_
      refine Z_get 48 rfl f_M_18 rfl rfl ?_
      refine Z_iload_n 49 rfl rfl rfl ?_
      refine Z_ia 50 rfl rfl (by omega) (by decide) ?_
      refine Z_ci (show _ = p.t.2.2.1 b from (n2 (by omega)).2.2) ?_
      refine Z_ineg 51 rfl ?_
      refine Z_ias 52 rfl rfl (by omega) (by decide) (mem' := eM ((uI (tnT p.t a b).1 a (tk (p.t.1 b)), uI (tnT p.t a b).2.1 a (p.t.2.1 b), uI (tnT p.t a b).2.2.1 a (-p.t.2.2.1 b), p.t.2.2.2), p.2) he fa li sl be ov av bl kw sm ma mf mw cj) rfl ?_
      refine Z_aload_n 53 rfl rfl rfl ?_
      refine Z_get 54 rfl f_M_11 rfl rfl ?_
      refine Z_iload_n 55 rfl rfl rfl ?_
      refine Z_iload_n 56 rfl rfl rfl ?_
      refine Z_ias 57 rfl rfl (by omega) (by decide) (mem' := eM ((uI (uI (tnT p.t a b).1 a (tk (p.t.1 b))) b (tk (p.t.1 a)), uI (tnT p.t a b).2.1 a (p.t.2.1 b), uI (tnT p.t a b).2.2.1 a (-p.t.2.2.1 b), p.t.2.2.2), p.2) he fa li sl be ov av bl kw sm ma mf mw cj) rfl ?_
      refine Z_aload_n 58 rfl rfl rfl ?_
      refine Z_get 59 rfl f_M_15 rfl rfl ?_
      refine Z_iload_n 60 rfl rfl rfl ?_
      refine Z_iload 61 rfl rfl ?_
      refine Z_ias 62 rfl rfl (by omega) (by decide) (mem' := eM ((uI (uI (tnT p.t a b).1 a (tk (p.t.1 b))) b (tk (p.t.1 a)), uI (uI (tnT p.t a b).2.1 a (p.t.2.1 b)) b (p.t.2.1 a), uI (tnT p.t a b).2.2.1 a (-p.t.2.2.1 b), p.t.2.2.2), p.2) he fa li sl be ov av bl kw sm ma mf mw cj) rfl ?_
      refine Z_aload_n 63 rfl rfl rfl ?_
      refine Z_get 64 rfl f_M_18 rfl rfl ?_
      refine Z_iload_n 65 rfl rfl rfl ?_
      refine Z_iload 66 rfl rfl ?_
      refine Z_ias 67 rfl rfl (by omega) (by decide) (mem' := eM ((uI (uI (tnT p.t a b).1 a (tk (p.t.1 b))) b (tk (p.t.1 a)), uI (uI (tnT p.t a b).2.1 a (p.t.2.1 b)) b (p.t.2.1 a), uI (uI (tnT p.t a b).2.2.1 a (-p.t.2.2.1 b)) b (-p.t.2.2.1 a), p.t.2.2.2), p.2) he fa li sl be ov av bl kw sm ma mf mw cj) rfl ?_
      refine Z_iinc 68 rfl rfl (Nat.le_of_ble_eq_true rfl) (lv' := [(1, .int _), (5, .int _), (4, .int _), (3, .int _), (0, .ref _), (2, .int _)]) rfl ?_
      refine Z_iinc 69 rfl rfl (Nat.le_of_ble_eq_true rfl) (lv' := [(2, .int _), (1, .int _), (5, .int _), (4, .int _), (3, .int _), (0, .ref _)]) rfl ?_
      refine Z_goto 70 rfl (tgt := 9) rfl ?_
      refine Z_pick [0, 1, 2] (lv' := [(0, .ref _), (1, .int _), (2, .int _)]) rfl ?_
      refine Z_mem (show _ = eM (tnT p.t (a + 1) (b - 1), p.2) he fa li sl be ov av bl kw sm ma mf mw cj by unfold tnT; rw [← tnF_s h2 (by omega) h3, ← tnF_s h2 (by omega) h3, ← tnF_s h2 (by omega) h3]) ?_
      exact ih (a + 1) (b + -1) (by omega) (by omega) (by omega) (by omega)
theorem c_M_mirror (h : MV p) : Con l M_M_mirror R_M_mirror 0 0 false [.ref 0] (eM p he fa li sl be ov av bl kw sm ma mf mw cj) (zAi (tot (mirT p.t)) (fun m => m = eM (mirT p.t, p.2) he fa li sl be ov av bl kw sm ma mf mw cj)) := by
  have h1 := h.1.1.1
  have e : tnT p.t 0 (p.t.2.2.2 - 1) = p.t := by unfold tnT; rw [tnF_0, tnF_0, tnF_0]
  refine Con.of_Z (by decide) D_M_mirror (Nat.le_of_ble_eq_true rfl) ?_
  refine Z_iconst 0 rfl ?_
  refine Z_istore_n 1 rfl rfl (Nat.le_of_ble_eq_true rfl) (lv' := [(1, .int _), (0, .ref _)]) rfl ?_
  refine Z_aload_n 2 rfl rfl rfl ?_
  refine Z_get 3 rfl f_M_77 rfl rfl ?_
  refine Z_iconst 4 rfl ?_
  refine Z_isub 5 rfl ?_
  refine Z_istore_n 6 rfl rfl (Nat.le_of_ble_eq_true rfl) (lv' := [(2, .int _), (1, .int _), (0, .ref _)]) rfl ?_
  refine Z_pick [0, 1, 2] (lv' := [(0, .ref _), (1, .int _), (2, .int _)]) rfl ?_
  have h9 := lp_M_mirror l p he fa li sl be ov av bl kw sm ma mf mw cj h 16 0 (p.t.2.2.2 - 1) (by omega) (by omega) (by omega) (by omega)
  rw [e] at h9
  exact h9
theorem c_M_areAlike (h : MV p) (j k : Int) (hj : 0 ≤ j ∧ j < 12) (hk : 0 ≤ k ∧ k < 12) : Con l M_M_areAlike R_M_areAlike 0 0 false [.ref 0, .int (iI j), .int (iI k)] (eM p he fa li sl be ov av bl kw sm ma mf mw cj) (zAb (alk p.t j k) (fun m => m = eM p he fa li sl be ov av bl kw sm ma mf mw cj)) := by
  have a1 := h.1.1.2.1 j
  have a2 := h.1.1.2.1 k
  have b1 := h.1.1.2.2.1 j
  have b2 := h.1.1.2.2.1 k
  have d1 := h.1.1.2.2.2 j
  have d2 := h.1.1.2.2.2 k
  refine Con.of_Z (by decide) D_M_areAlike (Nat.le_of_ble_eq_true rfl) ?_
  refine Z_aload_n 0 rfl rfl rfl ?_
  refine Z_get 1 rfl f_M_11 rfl rfl ?_
  refine Z_iload_n 2 rfl rfl rfl ?_
  refine Z_ia 3 rfl rfl (by omega) (by decide) ?_
  refine Z_aload_n 4 rfl rfl rfl ?_
  refine Z_get 5 rfl f_M_11 rfl rfl ?_
  refine Z_iload_n 6 rfl rfl rfl ?_
  refine Z_ia 7 rfl rfl (by omega) (by decide) ?_
  refine Z_icmp_ne 8 rfl (tgt := 49) rfl (by omega) (by omega) (fun c12 => ?_) (fun c12 => ?_)
  · refine Z_iconst 29 rfl ?_
    refine Z_zret 30 rfl rfl rfl ⟨Nat.le_refl _, Nat.le_refl _⟩ ?_
    exact ⟨by unfold alk; first | rw [bI_t (by omega)] | rw [bI_f (by omega)], rfl⟩
  · refine Z_aload_n 9 rfl rfl rfl ?_
    refine Z_get 10 rfl f_M_15 rfl rfl ?_
    refine Z_iload_n 11 rfl rfl rfl ?_
    refine Z_ia 12 rfl rfl (by omega) (by decide) ?_
    refine Z_aload_n 13 rfl rfl rfl ?_
    refine Z_get 14 rfl f_M_15 rfl rfl ?_
    refine Z_iload_n 15 rfl rfl rfl ?_
    refine Z_ia 16 rfl rfl (by omega) (by decide) ?_
    refine Z_icmp_ne 17 rfl (tgt := 49) rfl (by omega) (by omega) (fun c27 => ?_) (fun c27 => ?_)
    · refine Z_iconst 29 rfl ?_
      refine Z_zret 30 rfl rfl rfl ⟨Nat.le_refl _, Nat.le_refl _⟩ ?_
      exact ⟨by unfold alk; first | rw [bI_t (by omega)] | rw [bI_f (by omega)], rfl⟩
    · refine Z_aload_n 18 rfl rfl rfl ?_
      refine Z_get 19 rfl f_M_18 rfl rfl ?_
      refine Z_iload_n 20 rfl rfl rfl ?_
      refine Z_ia 21 rfl rfl (by omega) (by decide) ?_
      refine Z_aload_n 22 rfl rfl rfl ?_
      refine Z_get 23 rfl f_M_18 rfl rfl ?_
      refine Z_iload_n 24 rfl rfl rfl ?_
      refine Z_ia 25 rfl rfl (by omega) (by decide) ?_
      refine Z_icmp_ne 26 rfl (tgt := 49) rfl (by omega) (by omega) (fun c42 => ?_) (fun c42 => ?_)
      · refine Z_iconst 29 rfl ?_
        refine Z_zret 30 rfl rfl rfl ⟨Nat.le_refl _, Nat.le_refl _⟩ ?_
        exact ⟨by unfold alk; first | rw [bI_t (by omega)] | rw [bI_f (by omega)], rfl⟩
      · refine Z_iconst 27 rfl ?_
        refine Z_goto 28 rfl (tgt := 50) rfl ?_
        refine Z_zret 30 rfl rfl rfl ⟨Nat.le_refl _, Nat.le_refl _⟩ ?_
        exact ⟨by unfold alk; first | rw [bI_t (by omega)] | rw [bI_f (by omega)], rfl⟩
theorem lp_M_alike (h : MV p) (j : Int) (hj : 0 ≤ j ∧ j < p.t.2.2.2) : ∀ (d : Nat) (k : Int), 0 ≤ k → k ≤ p.t.2.2.2 → p.t.2.2.2 - k < d → Z (l, M_M_alike, R_M_alike, (0, 0), false, zAi (cnI (fun i => alk p.t i j) p.t.2.2.2) (fun m => m = eM p he fa li sl be ov av bl kw sm ma mf mw cj)) 0 0 (eM p he fa li sl be ov av bl kw sm ma mf mw cj) 14 [(0, .ref 0), (1, .int (iI j)), (2, .int (iI (cnI (fun i => alk p.t i j) k))), (3, .int (iI k))] [] := by
  have h1 := h.1.1.1
  intro d
  induction d with
  | zero => intro k h2 h3 h4; omega
  | succ d ih =>
    intro k h2 h3 h4
    have e := cnI_s (fun i => alk p.t i j) h2
    refine Z_iload_n 10 rfl rfl rfl ?_
    refine Z_aload_n 11 rfl rfl rfl ?_
    refine Z_get 12 rfl f_M_77 rfl rfl ?_
    refine Z_icmp_ge 13 rfl (tgt := 40) rfl (by omega) (by omega) (fun c19 => ?_) (fun c19 => ?_)
    · refine Z_iload_n 22 rfl rfl rfl ?_
      refine Z_iret 23 rfl rfl ⟨Nat.le_refl _, Nat.le_refl _⟩ ?_
      exact ⟨by rw [show p.t.2.2.2 = k by omega], rfl⟩
    · refine Z_aload_n 14 rfl rfl rfl ?_
      refine Z_iload_n 15 rfl rfl rfl ?_
      refine Z_iload_n 16 rfl rfl rfl ?_
      refine Z_callVbp (M' := M_M_areAlike) 17 isM rfl l_M_129 C_M_areAlike (c_M_areAlike l p he fa li sl be ov av bl kw sm ma mf mw cj h k j (by omega) (by omega)) (emM ..) (Or.inl ⟨_, _, _, _, rfl, rfl⟩) rfl rfl rfl (Nat.le_of_ble_eq_true rfl) ⟨rfl, rfl, Nat.le_of_ble_eq_true rfl, Nat.le_of_ble_eq_true rfl⟩ ⟨Nat.zero_le _, Nat.zero_le _⟩ ?_
      refine Z_ifb_eq 18 rfl (tgt := 34) rfl (fun c28 => ?_) (fun c28 => ?_)
      · first | rw [show bI ((fun i => alk p.t i j) k) = 0 from bI_f c28] at e | skip
        refine Z_iinc 20 rfl rfl (Nat.le_of_ble_eq_true rfl) (lv' := [(3, .int _), (0, .ref _), (1, .int _), (2, .int _)]) rfl ?_
        refine Z_goto 21 rfl (tgt := 14) rfl ?_
        refine Z_pick [0, 1, 2, 3] (lv' := [(0, .ref _), (1, .int _), (2, .int _), (3, .int _)]) rfl ?_
        have hz := ih (k + 1) (by omega) (by omega) (by omega)
        rw [e] at hz
        first | exact hz | (rw [Int.add_zero] at hz; exact hz)
      · rw [show bI ((fun i => alk p.t i j) k) = 1 from bI_t c28] at e
        refine Z_iinc 19 rfl rfl (Nat.le_of_ble_eq_true rfl) (lv' := [(2, .int _), (0, .ref _), (1, .int _), (3, .int _)]) rfl ?_
        first | rw [show bI ((fun i => alk p.t i j) k) = 0 from bI_f c28] at e | skip
        refine Z_iinc 20 rfl rfl (Nat.le_of_ble_eq_true rfl) (lv' := [(3, .int _), (2, .int _), (0, .ref _), (1, .int _)]) rfl ?_
        refine Z_goto 21 rfl (tgt := 14) rfl ?_
        refine Z_pick [0, 1, 2, 3] (lv' := [(0, .ref _), (1, .int _), (2, .int _), (3, .int _)]) rfl ?_
        have hz := ih (k + 1) (by omega) (by omega) (by omega)
        rw [e] at hz
        first | exact hz | (rw [Int.add_zero] at hz; exact hz)
theorem c_M_alike (h : MV p) (j : Int) (hj : inI j) : Con l M_M_alike R_M_alike 0 0 false [.ref 0, .int (iI j)] (eM p he fa li sl be ov av bl kw sm ma mf mw cj) (zAi (alikeF p.t j) (fun m => m = eM p he fa li sl be ov av bl kw sm ma mf mw cj)) := by
  have h1 := h.1.1.1
  refine Con.of_Z (by decide) D_M_alike (Nat.le_of_ble_eq_true rfl) ?_
  refine Z_aload_n 0 rfl rfl rfl ?_
  refine Z_iload_n 1 rfl rfl rfl ?_
  refine Z_callVbp (M' := M_M_isPiece) 2 isM rfl l_M_104 C_M_isPiece (c_M_isPiece l p he fa li sl be ov av bl kw sm ma mf mw cj h.1.1 j hj) (emM ..) (Or.inl ⟨_, _, _, _, rfl, rfl⟩) rfl rfl rfl (Nat.le_of_ble_eq_true rfl) ⟨rfl, rfl, Nat.le_of_ble_eq_true rfl, Nat.le_of_ble_eq_true rfl⟩ ⟨Nat.zero_le _, Nat.zero_le _⟩ ?_
  refine Z_ifb_ne 3 rfl (tgt := 10) rfl (fun c5 => ?_) (fun c5 => ?_)
  · refine Z_iconst 6 rfl ?_
    refine Z_istore_n 7 rfl rfl (Nat.le_of_ble_eq_true rfl) (lv' := [(2, .int _), (0, .ref _), (1, .int _)]) rfl ?_
    refine Z_iconst 8 rfl ?_
    refine Z_istore_n 9 rfl rfl (Nat.le_of_ble_eq_true rfl) (lv' := [(3, .int _), (2, .int _), (0, .ref _), (1, .int _)]) rfl ?_
    refine Z_pick [0, 1, 2, 3] (lv' := [(0, .ref _), (1, .int _), (2, .int _), (3, .int _)]) rfl ?_
    have hz := lp_M_alike l p he fa li sl be ov av bl kw sm ma mf mw cj h j c5 13 0 (by omega) (by omega) (by omega)
    unfold alikeF
    rw [cif_t c5]
    exact hz
  · refine Z_iconst 4 rfl ?_
    refine Z_iret 5 rfl rfl ⟨Nat.le_refl _, Nat.le_refl _⟩ ?_
    exact ⟨by unfold alikeF; repeat (first | rw [cif_t (by first | assumption | omega)] | rw [cif_f (by first | assumption | omega)]), rfl⟩
def fst2 (t : TT) (k j : Int) : Prop := ∀ i, 0 ≤ i → i < j → ¬ alk t k i
theorem fst2_e {t : TT} {k : Int} : fst2 t k k ↔ fst1 t k := by
  unfold fst2 fst1 alk
  constructor
  · intro z i i1 i2 ⟨y1, y2, y3⟩
    exact z i i1 i2 ⟨y1.symm, y2.symm, y3.symm⟩
  · intro z i i1 i2 ⟨y1, y2, y3⟩
    exact z i i1 i2 ⟨y1.symm, y2.symm, y3.symm⟩
theorem lp_M_unlike (h : MV p) (k : Int) (hk : inI k ∧ -1 ≤ k) : ∀ (d : Nat) (j : Int), 0 ≤ j → j ≤ p.t.2.2.2 → p.t.2.2.2 - j < d → (∀ i, 0 ≤ i → i < j → fst1 p.t i → cnI (fst1 p.t) i ≠ k) → Z (l, M_M_unlike, R_M_unlike, (0, 0), false, zAi (unlikeF p.t k) (fun m => m = eM p he fa li sl be ov av bl kw sm ma mf mw cj)) 0 0 (eM p he fa li sl be ov av bl kw sm ma mf mw cj) 11 [(0, .ref 0), (1, .int (iI k)), (2, .int (iI (cnI (fst1 p.t) j))), (3, .int (iI j))] [] := by
  have h1 := h.1.1.1
  intro d
  induction d with
  | zero => intro j h2 h3 h4; omega
  | succ d ih =>
    intro j h2 h3 h4 h5
    have e := cnI_s (fst1 p.t) h2
    have eb := cnI_bd (fst1 p.t) h2
    have inner : j < p.t.2.2.2 → ∀ (d2 : Nat) (i : Int), 0 ≤ i → i ≤ j → j - i < d2 → Z (l, M_M_unlike, R_M_unlike, (0, 0), false, zAi (unlikeF p.t k) (fun m => m = eM p he fa li sl be ov av bl kw sm ma mf mw cj)) 0 0 (eM p he fa li sl be ov av bl kw sm ma mf mw cj) 25 [(0, .ref 0), (1, .int (iI k)), (2, .int (iI (cnI (fst1 p.t) j))), (3, .int (iI j)), (4, .int (iI (bI (fst2 p.t j i)))), (5, .int (iI i))] [] := by
      intro hjn d2
      induction d2 with
      | zero => intro i i1 i2 i3; omega
      | succ d2 ih2 =>
        intro i i1 i2 i3
        have hsx : fst2 p.t j (i + 1) ↔ fst2 p.t j i ∧ ¬ alk p.t j i := by
          constructor
          · intro z
            exact ⟨fun x x1 x2 => z x x1 (by omega), z i i1 (by omega)⟩
          · rintro ⟨z1, z2⟩ x x1 x2
            by_cases ex : x = i
            · rw [ex]; exact z2
            · exact z1 x x1 (by omega)
        refine Z_iload 17 rfl rfl ?_
        refine Z_iload_n 18 rfl rfl rfl ?_
        refine Z_icmp_ge 19 rfl (tgt := 59) rfl (by omega) (by omega) (fun c28 => ?_) (fun c28 => ?_)
        · obtain rfl : i = j := by omega
          rw [bI_c (fst2_e (t := p.t) (k := i))]
          refine Z_iload 33 rfl rfl ?_
          refine Z_ifb_eq 34 rfl (tgt := 71) rfl (fun c61 => ?_) (fun c61 => ?_)
          · refine Z_iload 40 rfl rfl ?_
            refine Z_ifb_eq 41 rfl (tgt := 79) rfl (fun c73 => ?_) (fun c73 => ?_)
            · refine Z_iinc 43 rfl rfl (Nat.le_of_ble_eq_true rfl) (lv' := [(3, .int _), (0, .ref _), (1, .int _), (2, .int _), (4, .int _), (5, .int _)]) rfl ?_
              refine Z_goto 44 rfl (tgt := 11) rfl ?_
              refine Z_pick [0, 1, 2, 3] (lv' := [(0, .ref _), (1, .int _), (2, .int _), (3, .int _)]) rfl ?_
              have hz := ih (i + 1) (by omega) (by omega) (by omega) (fun x x1 x2 x3 => by
                by_cases ex : x = i
                · rw [ex] at x3 ⊢
                  first | exact absurd x3 c61 | exact c66
                · exact h5 x x1 (by omega) x3)
              first | (exact absurd c61 c73) | (exact absurd c73 c61) | (rw [bI_f c61, Int.add_zero] at e; rw [e] at hz; exact hz) | (rw [bI_t c61] at e; rw [e] at hz; exact hz)
            · refine Z_iinc 42 rfl rfl (Nat.le_of_ble_eq_true rfl) (lv' := [(2, .int _), (0, .ref _), (1, .int _), (3, .int _), (4, .int _), (5, .int _)]) rfl ?_
              refine Z_iinc 43 rfl rfl (Nat.le_of_ble_eq_true rfl) (lv' := [(3, .int _), (2, .int _), (0, .ref _), (1, .int _), (4, .int _), (5, .int _)]) rfl ?_
              refine Z_goto 44 rfl (tgt := 11) rfl ?_
              refine Z_pick [0, 1, 2, 3] (lv' := [(0, .ref _), (1, .int _), (2, .int _), (3, .int _)]) rfl ?_
              have hz := ih (i + 1) (by omega) (by omega) (by omega) (fun x x1 x2 x3 => by
                by_cases ex : x = i
                · rw [ex] at x3 ⊢
                  first | exact absurd x3 c61 | exact c66
                · exact h5 x x1 (by omega) x3)
              first | (exact absurd c61 c73) | (exact absurd c73 c61) | (rw [bI_f c61, Int.add_zero] at e; rw [e] at hz; exact hz) | (rw [bI_t c61] at e; rw [e] at hz; exact hz)
          · refine Z_iload_n 35 rfl rfl rfl ?_
            refine Z_iload_n 36 rfl rfl rfl ?_
            refine Z_icmp_ne 37 rfl (tgt := 71) rfl (by omega) (by omega) (fun c66 => ?_) (fun c66 => ?_)
            · refine Z_iload 40 rfl rfl ?_
              refine Z_ifb_eq 41 rfl (tgt := 79) rfl (fun c73 => ?_) (fun c73 => ?_)
              · refine Z_iinc 43 rfl rfl (Nat.le_of_ble_eq_true rfl) (lv' := [(3, .int _), (0, .ref _), (1, .int _), (2, .int _), (4, .int _), (5, .int _)]) rfl ?_
                refine Z_goto 44 rfl (tgt := 11) rfl ?_
                refine Z_pick [0, 1, 2, 3] (lv' := [(0, .ref _), (1, .int _), (2, .int _), (3, .int _)]) rfl ?_
                have hz := ih (i + 1) (by omega) (by omega) (by omega) (fun x x1 x2 x3 => by
                  by_cases ex : x = i
                  · rw [ex] at x3 ⊢
                    first | exact absurd x3 c61 | exact c66
                  · exact h5 x x1 (by omega) x3)
                first | (exact absurd c61 c73) | (exact absurd c73 c61) | (rw [bI_f c61, Int.add_zero] at e; rw [e] at hz; exact hz) | (rw [bI_t c61] at e; rw [e] at hz; exact hz)
              · refine Z_iinc 42 rfl rfl (Nat.le_of_ble_eq_true rfl) (lv' := [(2, .int _), (0, .ref _), (1, .int _), (3, .int _), (4, .int _), (5, .int _)]) rfl ?_
                refine Z_iinc 43 rfl rfl (Nat.le_of_ble_eq_true rfl) (lv' := [(3, .int _), (2, .int _), (0, .ref _), (1, .int _), (4, .int _), (5, .int _)]) rfl ?_
                refine Z_goto 44 rfl (tgt := 11) rfl ?_
                refine Z_pick [0, 1, 2, 3] (lv' := [(0, .ref _), (1, .int _), (2, .int _), (3, .int _)]) rfl ?_
                have hz := ih (i + 1) (by omega) (by omega) (by omega) (fun x x1 x2 x3 => by
                  by_cases ex : x = i
                  · rw [ex] at x3 ⊢
                    first | exact absurd x3 c61 | exact c66
                  · exact h5 x x1 (by omega) x3)
                first | (exact absurd c61 c73) | (exact absurd c73 c61) | (rw [bI_f c61, Int.add_zero] at e; rw [e] at hz; exact hz) | (rw [bI_t c61] at e; rw [e] at hz; exact hz)
            · refine Z_iload_n 38 rfl rfl rfl ?_
              refine Z_iret 39 rfl rfl ⟨Nat.le_refl _, Nat.le_refl _⟩ ?_
              exact ⟨by rw [unlikeF_eq (v := i) (Or.inl ⟨h2, hjn, c61, c66⟩)], rfl⟩
        · refine Z_iload 20 rfl rfl ?_
          refine Z_ifb_eq 21 rfl (tgt := 50) rfl (fun c33 => ?_) (fun c33 => ?_)
          · refine Z_iconst 29 rfl ?_
            refine Z_ci (show _ = bI (fst2 p.t j (i + 1)) by first | rw [bI_t (hsx.mpr ⟨c33, c43⟩)] | rw [bI_f (fun z => (hsx.mp z).2 c43)] | rw [bI_f (fun z => c33 (hsx.mp z).1)]) ?_
            refine Z_istore 30 rfl (Nat.le_of_ble_eq_true rfl) (lv' := [(4, .int _), (0, .ref _), (1, .int _), (2, .int _), (3, .int _), (5, .int _)]) rfl ?_
            refine Z_iinc 31 rfl rfl (Nat.le_of_ble_eq_true rfl) (lv' := [(5, .int _), (4, .int _), (0, .ref _), (1, .int _), (2, .int _), (3, .int _)]) rfl ?_
            refine Z_goto 32 rfl (tgt := 25) rfl ?_
            refine Z_pick [0, 1, 2, 3, 4, 5] (lv' := [(0, .ref _), (1, .int _), (2, .int _), (3, .int _), (4, .int _), (5, .int _)]) rfl ?_
            exact ih2 (i + 1) (by omega) (by omega) (by omega)
          · refine Z_aload_n 22 rfl rfl rfl ?_
            refine Z_iload_n 23 rfl rfl rfl ?_
            refine Z_iload 24 rfl rfl ?_
            refine Z_callVbp (M' := M_M_areAlike) 25 isM rfl l_M_129 C_M_areAlike (c_M_areAlike l p he fa li sl be ov av bl kw sm ma mf mw cj h j i (by omega) (by omega)) (emM ..) (Or.inl ⟨_, _, _, _, rfl, rfl⟩) rfl rfl rfl (Nat.le_of_ble_eq_true rfl) ⟨rfl, rfl, Nat.le_of_ble_eq_true rfl, Nat.le_of_ble_eq_true rfl⟩ ⟨Nat.zero_le _, Nat.zero_le _⟩ ?_
            refine Z_ifb_ne 26 rfl (tgt := 50) rfl (fun c43 => ?_) (fun c43 => ?_)
            · refine Z_iconst 29 rfl ?_
              refine Z_ci (show _ = bI (fst2 p.t j (i + 1)) by first | rw [bI_t (hsx.mpr ⟨c33, c43⟩)] | rw [bI_f (fun z => (hsx.mp z).2 c43)] | rw [bI_f (fun z => c33 (hsx.mp z).1)]) ?_
              refine Z_istore 30 rfl (Nat.le_of_ble_eq_true rfl) (lv' := [(4, .int _), (0, .ref _), (1, .int _), (2, .int _), (3, .int _), (5, .int _)]) rfl ?_
              refine Z_iinc 31 rfl rfl (Nat.le_of_ble_eq_true rfl) (lv' := [(5, .int _), (4, .int _), (0, .ref _), (1, .int _), (2, .int _), (3, .int _)]) rfl ?_
              refine Z_goto 32 rfl (tgt := 25) rfl ?_
              refine Z_pick [0, 1, 2, 3, 4, 5] (lv' := [(0, .ref _), (1, .int _), (2, .int _), (3, .int _), (4, .int _), (5, .int _)]) rfl ?_
              exact ih2 (i + 1) (by omega) (by omega) (by omega)
            · refine Z_iconst 27 rfl ?_
              refine Z_goto 28 rfl (tgt := 51) rfl ?_
              refine Z_ci (show _ = bI (fst2 p.t j (i + 1)) by first | rw [bI_t (hsx.mpr ⟨c33, c43⟩)] | rw [bI_f (fun z => (hsx.mp z).2 c43)] | rw [bI_f (fun z => c33 (hsx.mp z).1)]) ?_
              refine Z_istore 30 rfl (Nat.le_of_ble_eq_true rfl) (lv' := [(4, .int _), (0, .ref _), (1, .int _), (2, .int _), (3, .int _), (5, .int _)]) rfl ?_
              refine Z_iinc 31 rfl rfl (Nat.le_of_ble_eq_true rfl) (lv' := [(5, .int _), (4, .int _), (0, .ref _), (1, .int _), (2, .int _), (3, .int _)]) rfl ?_
              refine Z_goto 32 rfl (tgt := 25) rfl ?_
              refine Z_pick [0, 1, 2, 3, 4, 5] (lv' := [(0, .ref _), (1, .int _), (2, .int _), (3, .int _), (4, .int _), (5, .int _)]) rfl ?_
              exact ih2 (i + 1) (by omega) (by omega) (by omega)
    refine Z_iload_n 9 rfl rfl rfl ?_
    refine Z_aload_n 10 rfl rfl rfl ?_
    refine Z_get 11 rfl f_M_77 rfl rfl ?_
    refine Z_icmp_ge 12 rfl (tgt := 85) rfl (by omega) (by omega) (fun c16 => ?_) (fun c16 => ?_)
    · refine Z_iload_n 45 rfl rfl rfl ?_
      refine Z_iconst 46 rfl ?_
      refine Z_icmp_ne 47 rfl (tgt := 94) rfl (by omega) (by omega) (fun c87 => ?_) (fun c87 => ?_)
      · refine Z_iconst 50 rfl ?_
        refine Z_iret 51 rfl rfl ⟨Nat.le_refl _, Nat.le_refl _⟩ ?_
        exact ⟨by
          have ej : j = p.t.2.2.2 := by omega
          rw [ej] at h5
          rw [unlikeF_eq (Or.inr ⟨h5, rfl⟩)]
          first | rw [if_pos (by omega), ← ej] | rw [if_neg (by omega)], rfl⟩
      · refine Z_iload_n 48 rfl rfl rfl ?_
        refine Z_goto 49 rfl (tgt := 95) rfl ?_
        refine Z_iret 51 rfl rfl ⟨Nat.le_refl _, Nat.le_refl _⟩ ?_
        exact ⟨by
          have ej : j = p.t.2.2.2 := by omega
          rw [ej] at h5
          rw [unlikeF_eq (Or.inr ⟨h5, rfl⟩)]
          first | rw [if_pos (by omega), ← ej] | rw [if_neg (by omega)], rfl⟩
    · refine Z_iconst 13 rfl ?_
      refine Z_istore 14 rfl (Nat.le_of_ble_eq_true rfl) (lv' := [(4, .int _), (0, .ref _), (1, .int _), (2, .int _), (3, .int _)]) rfl ?_
      refine Z_iconst 15 rfl ?_
      refine Z_istore 16 rfl (Nat.le_of_ble_eq_true rfl) (lv' := [(5, .int _), (4, .int _), (0, .ref _), (1, .int _), (2, .int _), (3, .int _)]) rfl ?_
      refine Z_pick [0, 1, 2, 3, 4, 5] (lv' := [(0, .ref _), (1, .int _), (2, .int _), (3, .int _), (4, .int _), (5, .int _)]) rfl ?_
      have hz := inner (by omega) (j + 1).toNat 0 (by omega) (by omega) (by omega)
      rw [bI_t (show fst2 p.t j 0 from fun x x1 x2 => by omega)] at hz
      exact hz
theorem c_M_unlike (h : MV p) (k : Int) (hk : inI k) : Con l M_M_unlike R_M_unlike 0 0 false [.ref 0, .int (iI k)] (eM p he fa li sl be ov av bl kw sm ma mf mw cj) (zAi (unlikeF p.t k) (fun m => m = eM p he fa li sl be ov av bl kw sm ma mf mw cj)) := by
  have h1 := h.1.1.1
  refine Con.of_Z (by decide) D_M_unlike (Nat.le_of_ble_eq_true rfl) ?_
  refine Z_iload_n 0 rfl rfl rfl ?_
  refine Z_iconst 1 rfl ?_
  refine Z_icmp_ge 2 rfl (tgt := 7) rfl (by omega) (by omega) (fun c2 => ?_) (fun c2 => ?_)
  · refine Z_iconst 5 rfl ?_
    refine Z_istore_n 6 rfl rfl (Nat.le_of_ble_eq_true rfl) (lv' := [(2, .int _), (0, .ref _), (1, .int _)]) rfl ?_
    refine Z_iconst 7 rfl ?_
    refine Z_istore_n 8 rfl rfl (Nat.le_of_ble_eq_true rfl) (lv' := [(3, .int _), (2, .int _), (0, .ref _), (1, .int _)]) rfl ?_
    refine Z_pick [0, 1, 2, 3] (lv' := [(0, .ref _), (1, .int _), (2, .int _), (3, .int _)]) rfl ?_
    exact lp_M_unlike l p he fa li sl be ov av bl kw sm ma mf mw cj h k ⟨hk, by omega⟩ 13 0 (by omega) (by omega) (by omega) (fun i i1 i2 => by omega)
  · refine Z_iconst 3 rfl ?_
    refine Z_iret 4 rfl rfl ⟨Nat.le_refl _, Nat.le_refl _⟩ ?_
    exact ⟨by rw [unlikeF_eq (v := -1) (Or.inr ⟨fun j j1 j2 j3 => by have := cnI_bd (fst1 p.t) j1; omega, by rw [if_neg (by omega)]⟩)], rfl⟩
theorem lp_M_steepestPiece (h : MV p) : ∀ (d : Nat) (j : Int), 0 ≤ j → j ≤ p.t.2.2.2 → p.t.2.2.2 - j < d → Z (l, M_M_steepestPiece, R_M_steepestPiece, (0, 0), false, zAi (spI p.t p.t.2.2.2) (fun m => m = eM p he fa li sl be ov av bl kw sm ma mf mw cj)) 0 0 (eM p he fa li sl be ov av bl kw sm ma mf mw cj) 5 [(0, .ref 0), (1, .int (iI (spI p.t j))), (2, .int (iI j))] [] := by
  have h1 := h.1.1.1
  intro d
  induction d with
  | zero => intro j h2 h3 h4; omega
  | succ d ih =>
    intro j h2 h3 h4
    have e := spI_s p.t h2
    have eb := spI_bd p.t h2
    have d1 := h.1.1.2.2.2 j
    have d2 := h.1.1.2.2.2 (spI p.t j)
    have m1 := mul_bd (ab_bd d1) (h.1.1.2.2.1 (spI p.t j))
    have m2 := mul_bd (ab_bd d2) (h.1.1.2.2.1 j)
    refine Z_iload_n 4 rfl rfl rfl ?_
    refine Z_aload_n 5 rfl rfl rfl ?_
    refine Z_get 6 rfl f_M_77 rfl rfl ?_
    refine Z_icmp_ge 7 rfl (tgt := 62) rfl (by omega) (by omega) (fun c10 => ?_) (fun c10 => ?_)
    · refine Z_iload_n 36 rfl rfl rfl ?_
      refine Z_iret 37 rfl rfl ⟨Nat.le_refl _, Nat.le_refl _⟩ ?_
      exact ⟨by rw [show p.t.2.2.2 = j by omega], rfl⟩
    · refine Z_iload_n 8 rfl rfl rfl ?_
      refine Z_bipush 9 rfl rfl ?_
      refine Z_icmp_eq 10 rfl (tgt := 54) rfl (by omega) (by omega) (fun c16 => ?_) (fun c16 => ?_)
      · refine Z_iload_n 32 rfl rfl rfl ?_
        refine Z_istore_n 33 rfl rfl (Nat.le_of_ble_eq_true rfl) (lv' := [(1, .int _), (0, .ref _), (2, .int _)]) rfl ?_
        refine Z_iinc 34 rfl rfl (Nat.le_of_ble_eq_true rfl) (lv' := [(2, .int _), (1, .int _), (0, .ref _)]) rfl ?_
        refine Z_goto 35 rfl (tgt := 5) rfl ?_
        refine Z_pick [0, 1, 2] (lv' := [(0, .ref _), (1, .int _), (2, .int _)]) rfl ?_
        have hz := ih (j + 1) (by omega) (by omega) (by omega)
        first | (rw [e, cif_t (Or.inl (by omega))] at hz; exact hz) | (rw [e, cif_t (Or.inr (show stp p.t j (spI p.t j) by unfold stp; omega))] at hz; exact hz) | (rw [e, cif_f (fun z => z.elim (by omega) (by unfold stp; omega))] at hz; exact hz)
      · refine Z_aload_n 11 rfl rfl rfl ?_
        refine Z_get 12 rfl f_M_18 rfl rfl ?_
        refine Z_iload_n 13 rfl rfl rfl ?_
        refine Z_ia 14 rfl rfl (by omega) (by decide) ?_
        refine Z_absI 15 rfl l_M_132 b_st_absI b_ini_Math b_cd_absI (by omega) (Nat.le_of_ble_eq_true rfl) ⟨Nat.le_of_ble_eq_true rfl, Nat.zero_le _, Nat.zero_le _⟩ ?_
        refine Z_ci (show _ = ab (p.t.2.2.1 j) from rfl) ?_
        refine Z_aload_n 16 rfl rfl rfl ?_
        refine Z_get 17 rfl f_M_15 rfl rfl ?_
        refine Z_iload_n 18 rfl rfl rfl ?_
        refine Z_ia 19 rfl rfl (by omega) (by decide) ?_
        refine Z_imul 20 rfl ?_
        refine Z_aload_n 21 rfl rfl rfl ?_
        refine Z_get 22 rfl f_M_18 rfl rfl ?_
        refine Z_iload_n 23 rfl rfl rfl ?_
        refine Z_ia 24 rfl rfl (by omega) (by decide) ?_
        refine Z_absI 25 rfl l_M_132 b_st_absI b_ini_Math b_cd_absI (by omega) (Nat.le_of_ble_eq_true rfl) ⟨Nat.le_of_ble_eq_true rfl, Nat.zero_le _, Nat.zero_le _⟩ ?_
        refine Z_ci (show _ = ab (p.t.2.2.1 (spI p.t j)) from rfl) ?_
        refine Z_aload_n 26 rfl rfl rfl ?_
        refine Z_get 27 rfl f_M_15 rfl rfl ?_
        refine Z_iload_n 28 rfl rfl rfl ?_
        refine Z_ia 29 rfl rfl (by omega) (by decide) ?_
        refine Z_imul 30 rfl ?_
        refine Z_icmp_le 31 rfl (tgt := 56) rfl (by omega) (by omega) (fun c51 => ?_) (fun c51 => ?_)
        · refine Z_iinc 34 rfl rfl (Nat.le_of_ble_eq_true rfl) (lv' := [(2, .int _), (0, .ref _), (1, .int _)]) rfl ?_
          refine Z_goto 35 rfl (tgt := 5) rfl ?_
          refine Z_pick [0, 1, 2] (lv' := [(0, .ref _), (1, .int _), (2, .int _)]) rfl ?_
          have hz := ih (j + 1) (by omega) (by omega) (by omega)
          first | (rw [e, cif_t (Or.inl (by omega))] at hz; exact hz) | (rw [e, cif_t (Or.inr (show stp p.t j (spI p.t j) by unfold stp; omega))] at hz; exact hz) | (rw [e, cif_f (fun z => z.elim (by omega) (by unfold stp; omega))] at hz; exact hz)
        · refine Z_iload_n 32 rfl rfl rfl ?_
          refine Z_istore_n 33 rfl rfl (Nat.le_of_ble_eq_true rfl) (lv' := [(1, .int _), (0, .ref _), (2, .int _)]) rfl ?_
          refine Z_iinc 34 rfl rfl (Nat.le_of_ble_eq_true rfl) (lv' := [(2, .int _), (1, .int _), (0, .ref _)]) rfl ?_
          refine Z_goto 35 rfl (tgt := 5) rfl ?_
          refine Z_pick [0, 1, 2] (lv' := [(0, .ref _), (1, .int _), (2, .int _)]) rfl ?_
          have hz := ih (j + 1) (by omega) (by omega) (by omega)
          first | (rw [e, cif_t (Or.inl (by omega))] at hz; exact hz) | (rw [e, cif_t (Or.inr (show stp p.t j (spI p.t j) by unfold stp; omega))] at hz; exact hz) | (rw [e, cif_f (fun z => z.elim (by omega) (by unfold stp; omega))] at hz; exact hz)
theorem c_M_steepestPiece (h : MV p) : Con l M_M_steepestPiece R_M_steepestPiece 0 0 false [.ref 0] (eM p he fa li sl be ov av bl kw sm ma mf mw cj) (zAi (spI p.t p.t.2.2.2) (fun m => m = eM p he fa li sl be ov av bl kw sm ma mf mw cj)) := by
  have h1 := h.1.1.1
  refine Con.of_Z (by decide) D_M_steepestPiece (Nat.le_of_ble_eq_true rfl) ?_
  refine Z_bipush 0 rfl rfl ?_
  refine Z_istore_n 1 rfl rfl (Nat.le_of_ble_eq_true rfl) (lv' := [(1, .int _), (0, .ref _)]) rfl ?_
  refine Z_iconst 2 rfl ?_
  refine Z_istore_n 3 rfl rfl (Nat.le_of_ble_eq_true rfl) (lv' := [(2, .int _), (1, .int _), (0, .ref _)]) rfl ?_
  refine Z_pick [0, 1, 2] (lv' := [(0, .ref _), (1, .int _), (2, .int _)]) rfl ?_
  exact lp_M_steepestPiece l p he fa li sl be ov av bl kw sm ma mf mw cj h 13 0 (by omega) (by omega) (by omega)
end M2
