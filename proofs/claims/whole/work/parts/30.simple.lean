/-! CamPieces: pieces, settings, what is told of an angle -/
/-- the Reader's own cells -/
def eD (b : Int → Int) (n : Int) (rj : RJ) : List zE := [zO 2 [.ref 1, .int (iI n), .ref 2, .int (iI rj.2.1), .int (iI rj.2.2.1), .int (iI rj.2.2.2.1), .int (iI rj.2.2.2.2.1), .int (iI rj.2.2.2.2.2)], aI 120 b, zO 5 [.ref 3, .ref 4, .ref 5, .int (iI rj.1.2.2.2)], aI 12 rj.1.1, aI 12 rj.1.2.1, aI 12 rj.1.2.2.1]
theorem c_D_size (l : Launch) (b : Int → Int) (n : Int) (rj : RJ) : Con l M_D_size R_D_size 0 0 false [.ref 0] (eD b n rj) (zAi n (fun m => m = eD b n rj)) := by
  refine Con.of_Z (by decide) D_D_size (Nat.le_of_ble_eq_true rfl) ?_
  refine Z_aload_n 0 rfl rfl rfl ?_
  refine Z_get 1 rfl f_D_15 rfl rfl ?_
  refine Z_iret 2 rfl rfl ⟨Nat.le_refl _, Nat.le_refl _⟩ ?_
  exact ⟨rfl, rfl⟩
theorem c_D_empty (l : Launch) (b : Int → Int) (n : Int) (rj : RJ) : Con l M_D_empty R_D_empty 0 0 false [.ref 0] (eD b n rj) (zAv (fun m => m = eD b 0 rj)) := by
  refine Con.of_Z (by decide) D_D_empty (Nat.le_of_ble_eq_true rfl) ?_
  refine Z_aload_n 0 rfl rfl rfl ?_
  refine Z_iconst 1 rfl ?_
  refine Z_put 2 rfl f_D_15 rfl (Nat.le_of_ble_eq_true rfl) (fun _ => ⟨rfl, rfl⟩) (fs' := []) (mem' := eD b 0 rj) rfl ?_
  refine Z_vret 3 rfl rfl ⟨Nat.le_refl _, Nat.le_refl _⟩ ?_
  exact ⟨rfl, rfl⟩
theorem c_D_append (l : Launch) (b : Int → Int) (n : Int) (rj : RJ) (v : Int) (hn : 0 ≤ n ∧ n < 120) : Con l M_D_append R_D_append 0 0 false [.ref 0, .int (iI v)] (eD b n rj) (zAv (fun m => m = eD (uI b n v) (n + 1) rj)) := by
  refine Con.of_Z (by decide) D_D_append (Nat.le_of_ble_eq_true rfl) ?_
  refine Z_aload_n 0 rfl rfl rfl ?_
  refine Z_get 1 rfl f_D_15 rfl rfl ?_
  refine Z_bipush 2 rfl rfl ?_
  refine Z_icmp_lt 3 rfl (tgt := 10) rfl (by omega) (by omega) (fun c6 => ?_) (fun c6 => ?_)
  rotate_left
  · exfalso; omega
  refine Z_aload_n 5 rfl rfl rfl ?_
  refine Z_get 6 rfl f_D_9 rfl rfl ?_
  refine Z_aload_n 7 rfl rfl rfl ?_
  refine Z_get 8 rfl f_D_15 rfl rfl ?_
  refine Z_iload_n 9 rfl rfl rfl ?_
  refine Z_callSNv (M' := M_C_store) 10 [1] rfl l_D_41 C_C_store (c_C_store l 120 (by omega) b n v (by omega)) ⟨by decide, (zEL.c (Or.inl rfl) zEL.n)⟩ rfl rfl rfl (Nat.le_of_ble_eq_true rfl) ⟨rfl, rfl, Nat.le_of_ble_eq_true rfl, Nat.le_of_ble_eq_true rfl⟩ ⟨Nat.zero_le _, Nat.zero_le _⟩ (fun out hq => ?_)
  obtain rfl := hq
  refine Z_mem (show _ = eD (uI b n v) n rj by rw [stI_in (by omega)]; rfl) ?_
  refine Z_aload_n 11 rfl rfl rfl ?_
  refine Z_dup 12 rfl rfl ?_
  refine Z_get 13 rfl f_D_15 rfl rfl ?_
  refine Z_iconst 14 rfl ?_
  refine Z_iadd 15 rfl ?_
  refine Z_put 16 rfl f_D_15 rfl (Nat.le_of_ble_eq_true rfl) (fun _ => ⟨rfl, rfl⟩) (fs' := []) (mem' := eD (uI b n v) (n + 1) rj) rfl ?_
  refine Z_vret 17 rfl rfl ⟨Nat.le_refl _, Nat.le_refl _⟩ ?_
  exact ⟨rfl, rfl⟩
section C2
variable (l : Launch) (p : PS) (rj : RJ) (s : SS) (w : WW) (g : RR) (q q2 : Int × Int) (sm co : Int → Int)
theorem c_C_piece (h : PV p) (k n r : Int) (hk : inI k) (hn : inI n) (hr : inI r) : Con l M_C_piece R_C_piece 0 0 false [.ref 0, .int (iI k), .int (iI n), .int (iI r)] (eC p rj s w g q q2 sm co) (zAi (pieceF p.t k n r).1 (fun m => m = eC ((pieceF p.t k n r).2, p.2) rj s w g q q2 sm co)) := by
  have h1 := h.1.1.1
  have h2 := tot_bd h.1.1
  refine Con.of_Z (by decide) D_C_piece (Nat.le_of_ble_eq_true rfl) ?_
  refine Z_iload_n 0 rfl rfl rfl ?_
  refine Z_if_lt 1 rfl (tgt := 10) rfl (by omega) (fun c1 => ?_) (fun c1 => ?_)
  · refine Z_iconst 5 rfl ?_
    refine Z_iret 6 rfl rfl ⟨Nat.le_refl _, Nat.le_refl _⟩ ?_
    exact ⟨by unfold pieceF; repeat (first | rw [cif_t (by first | assumption | omega)] | rw [cif_f (by first | assumption | omega)]), by unfold pieceF; repeat (first | rw [cif_t (by first | assumption | omega)] | rw [cif_f (by first | assumption | omega)])⟩
  · refine Z_iload_n 2 rfl rfl rfl ?_
    refine Z_bipush 3 rfl rfl ?_
    refine Z_icmp_lt 4 rfl (tgt := 12) rfl (by omega) (by omega) (fun c7 => ?_) (fun c7 => ?_)
    · refine Z_iload_n 7 rfl rfl rfl ?_
      refine Z_iload_n 8 rfl rfl rfl ?_
      refine Z_iload_n 9 rfl rfl rfl ?_
      refine Z_callSbp (M' := M_C_mayBe) 10 [] rfl l_C_95 C_C_mayBe (c_C_mayBe l k n r hk hn hr) ⟨List.nodup_nil, zEL.n⟩ rfl rfl rfl (Nat.le_of_ble_eq_true rfl) ⟨rfl, rfl, Nat.le_of_ble_eq_true rfl, Nat.le_of_ble_eq_true rfl⟩ ⟨Nat.zero_le _, Nat.zero_le _⟩ ?_
      refine Z_ifb_ne 11 rfl (tgt := 24) rfl (fun c18 => ?_) (fun c18 => ?_)
      · refine Z_aload_n 14 rfl rfl rfl ?_
        refine Z_get 15 rfl f_C_14 rfl rfl ?_
        refine Z_callVbp (M' := M_T_isFull) 16 [1, 2, 3, 4] rfl l_C_99 C_T_isFull (c_T_isFull l p.t h.1.1) ⟨by decide, (zEL.c (Or.inl rfl) (zEL.c (Or.inl rfl) (zEL.c (Or.inl rfl) (zEL.c (Or.inl rfl) zEL.n))))⟩ (Or.inl ⟨_, _, _, _, rfl, rfl⟩) rfl rfl rfl (Nat.le_of_ble_eq_true rfl) ⟨rfl, rfl, Nat.le_of_ble_eq_true rfl, Nat.le_of_ble_eq_true rfl⟩ ⟨Nat.zero_le _, Nat.zero_le _⟩ ?_
        refine Z_ifb_eq 17 rfl (tgt := 37) rfl (fun c31 => ?_) (fun c31 => ?_)
        · have hm : 1 ≤ n ∧ n ≤ 360 := by have := c18; unfold mb at this; omega
          refine Z_aload_n 20 rfl rfl rfl ?_
          refine Z_get 21 rfl f_C_14 rfl rfl ?_
          refine Z_callVip (M' := M_T_total) 22 [1, 2, 3, 4] rfl l_C_103 C_T_total (c_T_total l p.t h.1.1) ⟨by decide, (zEL.c (Or.inl rfl) (zEL.c (Or.inl rfl) (zEL.c (Or.inl rfl) (zEL.c (Or.inl rfl) zEL.n))))⟩ (Or.inl ⟨_, _, _, _, rfl, rfl⟩) rfl rfl rfl (Nat.le_of_ble_eq_true rfl) ⟨rfl, rfl, Nat.le_of_ble_eq_true rfl, Nat.le_of_ble_eq_true rfl⟩ ⟨Nat.zero_le _, Nat.zero_le _⟩ ?_
          refine Z_iload_n 23 rfl rfl rfl ?_
          refine Z_iadd 24 rfl ?_
          refine Z_sipush 25 rfl rfl ?_
          refine Z_icmp_le 26 rfl (tgt := 55) rfl (by omega) (by omega) (fun c49 => ?_) (fun c49 => ?_)
          · refine Z_aload_n 29 rfl rfl rfl ?_
            refine Z_get 30 rfl f_C_14 rfl rfl ?_
            refine Z_iload_n 31 rfl rfl rfl ?_
            refine Z_iload_n 32 rfl rfl rfl ?_
            refine Z_iload_n 33 rfl rfl rfl ?_
            refine Z_callVv (M' := M_T_append) 34 [1, 2, 3, 4] rfl l_C_107 C_T_append (c_T_append l p.t h.1.1 k n r (by omega)) ⟨by decide, (zEL.c (Or.inl rfl) (zEL.c (Or.inl rfl) (zEL.c (Or.inl rfl) (zEL.c (Or.inl rfl) zEL.n))))⟩ (Or.inl ⟨_, _, _, _, rfl, rfl⟩) rfl rfl rfl (Nat.le_of_ble_eq_true rfl) ⟨rfl, rfl, Nat.le_of_ble_eq_true rfl, Nat.le_of_ble_eq_true rfl⟩ ⟨Nat.zero_le _, Nat.zero_le _⟩ (fun out hq => ?_)
            obtain rfl := hq
            refine Z_mem (show _ = eC (tAp p.t k n r, p.2) rj s w g q q2 sm co from rfl) ?_
            refine Z_aload_n 35 rfl rfl rfl ?_
            refine Z_get 36 rfl f_C_14 rfl rfl ?_
            refine Z_callVip (M' := M_T_size) 37 [1, 2, 3, 4] rfl l_C_111 C_T_size (c_T_size l (tAp p.t k n r)) ⟨by decide, (zEL.c (Or.inl rfl) (zEL.c (Or.inl rfl) (zEL.c (Or.inl rfl) (zEL.c (Or.inl rfl) zEL.n))))⟩ (Or.inl ⟨_, _, _, _, rfl, rfl⟩) rfl rfl rfl (Nat.le_of_ble_eq_true rfl) ⟨rfl, rfl, Nat.le_of_ble_eq_true rfl, Nat.le_of_ble_eq_true rfl⟩ ⟨Nat.zero_le _, Nat.zero_le _⟩ ?_
            refine Z_iconst 38 rfl ?_
            refine Z_isub 39 rfl ?_
            refine Z_ci (show _ = p.t.2.2.2 by show p.t.2.2.2 + 1 - 1 = _; omega) ?_
            refine Z_iret 40 rfl rfl ⟨Nat.le_refl _, Nat.le_refl _⟩ ?_
            exact ⟨by unfold pieceF; repeat (first | rw [cif_t (by first | assumption | omega)] | rw [cif_f (by first | assumption | omega)]), by unfold pieceF; repeat (first | rw [cif_t (by first | assumption | omega)] | rw [cif_f (by first | assumption | omega)])⟩
          · refine Z_bipush 27 rfl rfl ?_
            refine Z_iret 28 rfl rfl ⟨Nat.le_refl _, Nat.le_refl _⟩ ?_
            exact ⟨by unfold pieceF; repeat (first | rw [cif_t (by first | assumption | omega)] | rw [cif_f (by first | assumption | omega)]), by unfold pieceF; repeat (first | rw [cif_t (by first | assumption | omega)] | rw [cif_f (by first | assumption | omega)])⟩
        · refine Z_bipush 18 rfl rfl ?_
          refine Z_iret 19 rfl rfl ⟨Nat.le_refl _, Nat.le_refl _⟩ ?_
          exact ⟨by unfold pieceF; repeat (first | rw [cif_t (by first | assumption | omega)] | rw [cif_f (by first | assumption | omega)]), by unfold pieceF; repeat (first | rw [cif_t (by first | assumption | omega)] | rw [cif_f (by first | assumption | omega)])⟩
      · refine Z_bipush 12 rfl rfl ?_
        refine Z_iret 13 rfl rfl ⟨Nat.le_refl _, Nat.le_refl _⟩ ?_
        exact ⟨by unfold pieceF; repeat (first | rw [cif_t (by first | assumption | omega)] | rw [cif_f (by first | assumption | omega)]), by unfold pieceF; repeat (first | rw [cif_t (by first | assumption | omega)] | rw [cif_f (by first | assumption | omega)])⟩
    · refine Z_iconst 5 rfl ?_
      refine Z_iret 6 rfl rfl ⟨Nat.le_refl _, Nat.le_refl _⟩ ?_
      exact ⟨by unfold pieceF; repeat (first | rw [cif_t (by first | assumption | omega)] | rw [cif_f (by first | assumption | omega)]), by unfold pieceF; repeat (first | rw [cif_t (by first | assumption | omega)] | rw [cif_f (by first | assumption | omega)])⟩
theorem c_C_drop (h : PV p) : Con l M_C_drop R_C_drop 0 0 false [.ref 0] (eC p rj s w g q q2 sm co) (zAi (dropF p.t).1 (fun m => m = eC ((dropF p.t).2, p.2) rj s w g q q2 sm co)) := by
  have h1 := h.1.1.1
  refine Con.of_Z (by decide) D_C_drop (Nat.le_of_ble_eq_true rfl) ?_
  refine Z_aload_n 0 rfl rfl rfl ?_
  refine Z_get 1 rfl f_C_14 rfl rfl ?_
  refine Z_callVip (M' := M_T_size) 2 [1, 2, 3, 4] rfl l_C_111 C_T_size (c_T_size l p.t) ⟨by decide, (zEL.c (Or.inl rfl) (zEL.c (Or.inl rfl) (zEL.c (Or.inl rfl) (zEL.c (Or.inl rfl) zEL.n))))⟩ (Or.inl ⟨_, _, _, _, rfl, rfl⟩) rfl rfl rfl (Nat.le_of_ble_eq_true rfl) ⟨rfl, rfl, Nat.le_of_ble_eq_true rfl, Nat.le_of_ble_eq_true rfl⟩ ⟨Nat.zero_le _, Nat.zero_le _⟩ ?_
  refine Z_if_ne 3 rfl (tgt := 13) rfl (by omega) (fun c7 => ?_) (fun c7 => ?_)
  · refine Z_aload_n 6 rfl rfl rfl ?_
    refine Z_get 7 rfl f_C_14 rfl rfl ?_
    refine Z_callVv (M' := M_T_shorten) 8 [1, 2, 3, 4] rfl l_C_114 C_T_shorten (c_T_shorten l p.t h.1.1 (by omega)) ⟨by decide, (zEL.c (Or.inl rfl) (zEL.c (Or.inl rfl) (zEL.c (Or.inl rfl) (zEL.c (Or.inl rfl) zEL.n))))⟩ (Or.inl ⟨_, _, _, _, rfl, rfl⟩) rfl rfl rfl (Nat.le_of_ble_eq_true rfl) ⟨rfl, rfl, Nat.le_of_ble_eq_true rfl, Nat.le_of_ble_eq_true rfl⟩ ⟨Nat.zero_le _, Nat.zero_le _⟩ (fun out hq => ?_)
    obtain rfl := hq
    refine Z_mem (show _ = eC ((p.t.1, p.t.2.1, p.t.2.2.1, p.t.2.2.2 - 1), p.2) rj s w g q q2 sm co from rfl) ?_
    refine Z_aload_n 9 rfl rfl rfl ?_
    refine Z_get 10 rfl f_C_14 rfl rfl ?_
    refine Z_callVip (M' := M_T_size) 11 [1, 2, 3, 4] rfl l_C_111 C_T_size (c_T_size l (p.t.1, p.t.2.1, p.t.2.2.1, p.t.2.2.2 - 1)) ⟨by decide, (zEL.c (Or.inl rfl) (zEL.c (Or.inl rfl) (zEL.c (Or.inl rfl) (zEL.c (Or.inl rfl) zEL.n))))⟩ (Or.inl ⟨_, _, _, _, rfl, rfl⟩) rfl rfl rfl (Nat.le_of_ble_eq_true rfl) ⟨rfl, rfl, Nat.le_of_ble_eq_true rfl, Nat.le_of_ble_eq_true rfl⟩ ⟨Nat.zero_le _, Nat.zero_le _⟩ ?_
    refine Z_iret 12 rfl rfl ⟨Nat.le_refl _, Nat.le_refl _⟩ ?_
    exact ⟨by unfold dropF; (repeat (first | rw [cif_t (by first | assumption | omega)] | rw [cif_f (by first | assumption | omega)])) <;> rfl, by unfold dropF; (repeat (first | rw [cif_t (by first | assumption | omega)] | rw [cif_f (by first | assumption | omega)])) <;> rfl⟩
  · refine Z_bipush 4 rfl rfl ?_
    refine Z_iret 5 rfl rfl ⟨Nat.le_refl _, Nat.le_refl _⟩ ?_
    exact ⟨by unfold dropF; (repeat (first | rw [cif_t (by first | assumption | omega)] | rw [cif_f (by first | assumption | omega)])) <;> rfl, by unfold dropF; (repeat (first | rw [cif_t (by first | assumption | omega)] | rw [cif_f (by first | assumption | omega)])) <;> rfl⟩
theorem c_C_put (h : PV p) (j what v : Int) (hj : inI j) (hw : inI what) (hv : inI v) : Con l M_C_put R_C_put 0 0 false [.ref 0, .int (iI j), .int (iI what), .int (iI v)] (eC p rj s w g q q2 sm co) (zAi (putF p.t j what v).1 (fun m => m = eC ((putF p.t j what v).2, p.2) rj s w g q q2 sm co)) := by
  have h1 := h.1.1.1
  have h2 := tot_bd h.1.1
  have b1 := h.1.1.2.1 j
  have b2 := h.1.1.2.2.1 j
  have b3 := h.1.1.2.2.2 j
  obtain ⟨kk, hkk⟩ : ∃ kk, kk = if what = 0 then v else p.t.1 j := ⟨_, rfl⟩
  obtain ⟨ll, hll⟩ : ∃ ll, ll = if what = 1 then v else p.t.2.1 j := ⟨_, rfl⟩
  obtain ⟨rr, hrr⟩ : ∃ rr, rr = if what = 2 then v else p.t.2.2.1 j := ⟨_, rfl⟩
  have ik : inI kk := by rw [hkk]; split <;> omega
  have il : inI ll := by rw [hll]; split <;> omega
  have ir : inI rr := by rw [hrr]; split <;> omega
  refine Con.of_Z (by decide) D_C_put (Nat.le_of_ble_eq_true rfl) ?_
  refine Z_aload_n 0 rfl rfl rfl ?_
  refine Z_get 1 rfl f_C_14 rfl rfl ?_
  refine Z_iload_n 2 rfl rfl rfl ?_
  refine Z_callVbp (M' := M_T_has) 3 [1, 2, 3, 4] rfl l_C_117 C_T_has (c_T_has l p.t h.1.1 j hj) ⟨by decide, (zEL.c (Or.inl rfl) (zEL.c (Or.inl rfl) (zEL.c (Or.inl rfl) (zEL.c (Or.inl rfl) zEL.n))))⟩ (Or.inl ⟨_, _, _, _, rfl, rfl⟩) rfl rfl rfl (Nat.le_of_ble_eq_true rfl) ⟨rfl, rfl, Nat.le_of_ble_eq_true rfl, Nat.le_of_ble_eq_true rfl⟩ ⟨Nat.zero_le _, Nat.zero_le _⟩ ?_
  refine Z_ifb_eq 4 rfl (tgt := 20) rfl (fun c8 => ?_) (fun c8 => ?_)
  · refine Z_sipush 10 rfl rfl ?_
    refine Z_iret 11 rfl rfl ⟨Nat.le_refl _, Nat.le_refl _⟩ ?_
    first | (exfalso; omega) | exact ⟨by unfold putF; rw [← hkk, ← hll, ← hrr]; unfold putG; repeat (first | rw [cif_t (by first | assumption | omega)] | rw [cif_f (by first | assumption | omega)]), by unfold putF; rw [← hkk, ← hll, ← hrr]; unfold putG; (repeat (first | rw [cif_t (by first | assumption | omega)] | rw [cif_f (by first | assumption | omega)])) <;> rfl⟩
  · refine Z_iload_n 5 rfl rfl rfl ?_
    refine Z_if_lt 6 rfl (tgt := 20) rfl (by omega) (fun c12 => ?_) (fun c12 => ?_)
    · refine Z_sipush 10 rfl rfl ?_
      refine Z_iret 11 rfl rfl ⟨Nat.le_refl _, Nat.le_refl _⟩ ?_
      first | (exfalso; omega) | exact ⟨by unfold putF; rw [← hkk, ← hll, ← hrr]; unfold putG; repeat (first | rw [cif_t (by first | assumption | omega)] | rw [cif_f (by first | assumption | omega)]), by unfold putF; rw [← hkk, ← hll, ← hrr]; unfold putG; (repeat (first | rw [cif_t (by first | assumption | omega)] | rw [cif_f (by first | assumption | omega)])) <;> rfl⟩
    · refine Z_iload_n 7 rfl rfl rfl ?_
      refine Z_iconst 8 rfl ?_
      refine Z_icmp_le 9 rfl (tgt := 24) rfl (by omega) (by omega) (fun c17 => ?_) (fun c17 => ?_)
      · refine Z_iload_n 12 rfl rfl rfl ?_
        refine Z_if_ne 13 rfl (tgt := 32) rfl (by omega) (fun c25 => ?_) (fun c25 => ?_)
        · refine Z_aload_n 16 rfl rfl rfl ?_
          refine Z_get 17 rfl f_C_14 rfl rfl ?_
          refine Z_iload_n 18 rfl rfl rfl ?_
          refine Z_callVip (M' := M_T_kindOf) 19 [1, 2, 3, 4] rfl l_C_121 C_T_kindOf (c_T_kindOf l p.t j (by omega)) ⟨by decide, (zEL.c (Or.inl rfl) (zEL.c (Or.inl rfl) (zEL.c (Or.inl rfl) (zEL.c (Or.inl rfl) zEL.n))))⟩ (Or.inl ⟨_, _, _, _, rfl, rfl⟩) rfl rfl rfl (Nat.le_of_ble_eq_true rfl) ⟨rfl, rfl, Nat.le_of_ble_eq_true rfl, Nat.le_of_ble_eq_true rfl⟩ ⟨Nat.zero_le _, Nat.zero_le _⟩ ?_
          refine Z_ci (show _ = kk by rw [hkk]; first | (exfalso; omega) | rw [if_pos (by omega)] | rw [if_neg (by omega)]) ?_
          refine Z_istore 20 rfl (Nat.le_of_ble_eq_true rfl) (lv' := [(4, .int _), (0, .ref _), (1, .int _), (2, .int _), (3, .int _)]) rfl ?_
          refine Z_iload_n 21 rfl rfl rfl ?_
          refine Z_iconst 22 rfl ?_
          refine Z_icmp_ne 23 rfl (tgt := 51) rfl (by omega) (by omega) (fun c44 => ?_) (fun c44 => ?_)
          · refine Z_aload_n 26 rfl rfl rfl ?_
            refine Z_get 27 rfl f_C_14 rfl rfl ?_
            refine Z_iload_n 28 rfl rfl rfl ?_
            refine Z_callVip (M' := M_T_longOf) 29 [1, 2, 3, 4] rfl l_C_125 C_T_longOf (c_T_longOf l p.t j (by omega)) ⟨by decide, (zEL.c (Or.inl rfl) (zEL.c (Or.inl rfl) (zEL.c (Or.inl rfl) (zEL.c (Or.inl rfl) zEL.n))))⟩ (Or.inl ⟨_, _, _, _, rfl, rfl⟩) rfl rfl rfl (Nat.le_of_ble_eq_true rfl) ⟨rfl, rfl, Nat.le_of_ble_eq_true rfl, Nat.le_of_ble_eq_true rfl⟩ ⟨Nat.zero_le _, Nat.zero_le _⟩ ?_
            refine Z_ci (show _ = ll by rw [hll]; first | (exfalso; omega) | rw [if_pos (by omega)] | rw [if_neg (by omega)]) ?_
            refine Z_istore 30 rfl (Nat.le_of_ble_eq_true rfl) (lv' := [(5, .int _), (4, .int _), (0, .ref _), (1, .int _), (2, .int _), (3, .int _)]) rfl ?_
            refine Z_iload_n 31 rfl rfl rfl ?_
            refine Z_iconst 32 rfl ?_
            refine Z_icmp_ne 33 rfl (tgt := 70) rfl (by omega) (by omega) (fun c63 => ?_) (fun c63 => ?_)
            · refine Z_aload_n 36 rfl rfl rfl ?_
              refine Z_get 37 rfl f_C_14 rfl rfl ?_
              refine Z_iload_n 38 rfl rfl rfl ?_
              refine Z_callVip (M' := M_T_riseOf) 39 [1, 2, 3, 4] rfl l_C_128 C_T_riseOf (c_T_riseOf l p.t j (by omega)) ⟨by decide, (zEL.c (Or.inl rfl) (zEL.c (Or.inl rfl) (zEL.c (Or.inl rfl) (zEL.c (Or.inl rfl) zEL.n))))⟩ (Or.inl ⟨_, _, _, _, rfl, rfl⟩) rfl rfl rfl (Nat.le_of_ble_eq_true rfl) ⟨rfl, rfl, Nat.le_of_ble_eq_true rfl, Nat.le_of_ble_eq_true rfl⟩ ⟨Nat.zero_le _, Nat.zero_le _⟩ ?_
              refine Z_ci (show _ = rr by rw [hrr]; first | (exfalso; omega) | rw [if_pos (by omega)] | rw [if_neg (by omega)]) ?_
              refine Z_istore 40 rfl (Nat.le_of_ble_eq_true rfl) (lv' := [(6, .int _), (5, .int _), (4, .int _), (0, .ref _), (1, .int _), (2, .int _), (3, .int _)]) rfl ?_
              refine Z_iload 41 rfl rfl ?_
              refine Z_iload 42 rfl rfl ?_
              refine Z_iload 43 rfl rfl ?_
              refine Z_callSbp (M' := M_C_mayBe) 44 [] rfl l_C_95 C_C_mayBe (c_C_mayBe l kk ll rr ik il ir) ⟨List.nodup_nil, zEL.n⟩ rfl rfl rfl (Nat.le_of_ble_eq_true rfl) ⟨rfl, rfl, Nat.le_of_ble_eq_true rfl, Nat.le_of_ble_eq_true rfl⟩ ⟨Nat.zero_le _, Nat.zero_le _⟩ ?_
              refine Z_ifb_ne 45 rfl (tgt := 96) rfl (fun c89 => ?_) (fun c89 => ?_)
              · have hm : 1 ≤ ll ∧ ll ≤ 360 := by have := c89; unfold mb at this; omega
                refine Z_aload_n 48 rfl rfl rfl ?_
                refine Z_get 49 rfl f_C_14 rfl rfl ?_
                refine Z_callVip (M' := M_T_total) 50 [1, 2, 3, 4] rfl l_C_103 C_T_total (c_T_total l p.t h.1.1) ⟨by decide, (zEL.c (Or.inl rfl) (zEL.c (Or.inl rfl) (zEL.c (Or.inl rfl) (zEL.c (Or.inl rfl) zEL.n))))⟩ (Or.inl ⟨_, _, _, _, rfl, rfl⟩) rfl rfl rfl (Nat.le_of_ble_eq_true rfl) ⟨rfl, rfl, Nat.le_of_ble_eq_true rfl, Nat.le_of_ble_eq_true rfl⟩ ⟨Nat.zero_le _, Nat.zero_le _⟩ ?_
                refine Z_aload_n 51 rfl rfl rfl ?_
                refine Z_get 52 rfl f_C_14 rfl rfl ?_
                refine Z_iload_n 53 rfl rfl rfl ?_
                refine Z_callVip (M' := M_T_longOf) 54 [1, 2, 3, 4] rfl l_C_125 C_T_longOf (c_T_longOf l p.t j (by omega)) ⟨by decide, (zEL.c (Or.inl rfl) (zEL.c (Or.inl rfl) (zEL.c (Or.inl rfl) (zEL.c (Or.inl rfl) zEL.n))))⟩ (Or.inl ⟨_, _, _, _, rfl, rfl⟩) rfl rfl rfl (Nat.le_of_ble_eq_true rfl) ⟨rfl, rfl, Nat.le_of_ble_eq_true rfl, Nat.le_of_ble_eq_true rfl⟩ ⟨Nat.zero_le _, Nat.zero_le _⟩ ?_
                refine Z_isub 55 rfl ?_
                refine Z_iload 56 rfl rfl ?_
                refine Z_iadd 57 rfl ?_
                refine Z_sipush 58 rfl rfl ?_
                refine Z_icmp_le 59 rfl (tgt := 125) rfl (by omega) (by omega) (fun c118 => ?_) (fun c118 => ?_)
                · refine Z_aload_n 62 rfl rfl rfl ?_
                  refine Z_get 63 rfl f_C_14 rfl rfl ?_
                  refine Z_iload_n 64 rfl rfl rfl ?_
                  refine Z_iload_n 65 rfl rfl rfl ?_
                  refine Z_callVip (M' := M_T_partOf) 66 [1, 2, 3, 4] rfl l_C_131 C_T_partOf (c_T_partOf l p.t j what (by omega) hw) ⟨by decide, (zEL.c (Or.inl rfl) (zEL.c (Or.inl rfl) (zEL.c (Or.inl rfl) (zEL.c (Or.inl rfl) zEL.n))))⟩ (Or.inl ⟨_, _, _, _, rfl, rfl⟩) rfl rfl rfl (Nat.le_of_ble_eq_true rfl) ⟨rfl, rfl, Nat.le_of_ble_eq_true rfl, Nat.le_of_ble_eq_true rfl⟩ ⟨Nat.zero_le _, Nat.zero_le _⟩ ?_
                  refine Z_istore 67 rfl (Nat.le_of_ble_eq_true rfl) (lv' := [(7, .int _), (6, .int _), (5, .int _), (4, .int _), (0, .ref _), (1, .int _), (2, .int _), (3, .int _)]) rfl ?_
                  refine Z_aload_n 68 rfl rfl rfl ?_
                  refine Z_get 69 rfl f_C_14 rfl rfl ?_
                  refine Z_iload_n 70 rfl rfl rfl ?_
                  refine Z_iload 71 rfl rfl ?_
                  refine Z_iload 72 rfl rfl ?_
                  refine Z_iload 73 rfl rfl ?_
                  refine Z_callVv (M' := M_T_write) 74 [1, 2, 3, 4] rfl l_C_135 C_T_write (c_T_write l p.t j kk ll rr (by omega)) ⟨by decide, (zEL.c (Or.inl rfl) (zEL.c (Or.inl rfl) (zEL.c (Or.inl rfl) (zEL.c (Or.inl rfl) zEL.n))))⟩ (Or.inl ⟨_, _, _, _, rfl, rfl⟩) rfl rfl rfl (Nat.le_of_ble_eq_true rfl) ⟨rfl, rfl, Nat.le_of_ble_eq_true rfl, Nat.le_of_ble_eq_true rfl⟩ ⟨Nat.zero_le _, Nat.zero_le _⟩ (fun out hq => ?_)
                  obtain rfl := hq
                  refine Z_mem (show _ = eC (tW p.t j kk ll rr, p.2) rj s w g q q2 sm co from rfl) ?_
                  refine Z_iload 75 rfl rfl ?_
                  refine Z_iret 76 rfl rfl ⟨Nat.le_refl _, Nat.le_refl _⟩ ?_
                  first | (exfalso; omega) | exact ⟨by unfold putF; rw [← hkk, ← hll, ← hrr]; unfold putG; repeat (first | rw [cif_t (by first | assumption | omega)] | rw [cif_f (by first | assumption | omega)]), by unfold putF; rw [← hkk, ← hll, ← hrr]; unfold putG; (repeat (first | rw [cif_t (by first | assumption | omega)] | rw [cif_f (by first | assumption | omega)])) <;> rfl⟩
                · refine Z_sipush 60 rfl rfl ?_
                  refine Z_iret 61 rfl rfl ⟨Nat.le_refl _, Nat.le_refl _⟩ ?_
                  first | (exfalso; omega) | exact ⟨by unfold putF; rw [← hkk, ← hll, ← hrr]; unfold putG; repeat (first | rw [cif_t (by first | assumption | omega)] | rw [cif_f (by first | assumption | omega)]), by unfold putF; rw [← hkk, ← hll, ← hrr]; unfold putG; (repeat (first | rw [cif_t (by first | assumption | omega)] | rw [cif_f (by first | assumption | omega)])) <;> rfl⟩
              · refine Z_sipush 46 rfl rfl ?_
                refine Z_iret 47 rfl rfl ⟨Nat.le_refl _, Nat.le_refl _⟩ ?_
                first | (exfalso; omega) | exact ⟨by unfold putF; rw [← hkk, ← hll, ← hrr]; unfold putG; repeat (first | rw [cif_t (by first | assumption | omega)] | rw [cif_f (by first | assumption | omega)]), by unfold putF; rw [← hkk, ← hll, ← hrr]; unfold putG; (repeat (first | rw [cif_t (by first | assumption | omega)] | rw [cif_f (by first | assumption | omega)])) <;> rfl⟩
            · refine Z_iload_n 34 rfl rfl rfl ?_
              refine Z_goto 35 rfl (tgt := 78) rfl ?_
              refine Z_ci (show _ = rr by rw [hrr]; first | (exfalso; omega) | rw [if_pos (by omega)] | rw [if_neg (by omega)]) ?_
              refine Z_istore 40 rfl (Nat.le_of_ble_eq_true rfl) (lv' := [(6, .int _), (5, .int _), (4, .int _), (0, .ref _), (1, .int _), (2, .int _), (3, .int _)]) rfl ?_
              refine Z_iload 41 rfl rfl ?_
              refine Z_iload 42 rfl rfl ?_
              refine Z_iload 43 rfl rfl ?_
              refine Z_callSbp (M' := M_C_mayBe) 44 [] rfl l_C_95 C_C_mayBe (c_C_mayBe l kk ll rr ik il ir) ⟨List.nodup_nil, zEL.n⟩ rfl rfl rfl (Nat.le_of_ble_eq_true rfl) ⟨rfl, rfl, Nat.le_of_ble_eq_true rfl, Nat.le_of_ble_eq_true rfl⟩ ⟨Nat.zero_le _, Nat.zero_le _⟩ ?_
              refine Z_ifb_ne 45 rfl (tgt := 96) rfl (fun c89 => ?_) (fun c89 => ?_)
              · have hm : 1 ≤ ll ∧ ll ≤ 360 := by have := c89; unfold mb at this; omega
                refine Z_aload_n 48 rfl rfl rfl ?_
                refine Z_get 49 rfl f_C_14 rfl rfl ?_
                refine Z_callVip (M' := M_T_total) 50 [1, 2, 3, 4] rfl l_C_103 C_T_total (c_T_total l p.t h.1.1) ⟨by decide, (zEL.c (Or.inl rfl) (zEL.c (Or.inl rfl) (zEL.c (Or.inl rfl) (zEL.c (Or.inl rfl) zEL.n))))⟩ (Or.inl ⟨_, _, _, _, rfl, rfl⟩) rfl rfl rfl (Nat.le_of_ble_eq_true rfl) ⟨rfl, rfl, Nat.le_of_ble_eq_true rfl, Nat.le_of_ble_eq_true rfl⟩ ⟨Nat.zero_le _, Nat.zero_le _⟩ ?_
                refine Z_aload_n 51 rfl rfl rfl ?_
                refine Z_get 52 rfl f_C_14 rfl rfl ?_
                refine Z_iload_n 53 rfl rfl rfl ?_
                refine Z_callVip (M' := M_T_longOf) 54 [1, 2, 3, 4] rfl l_C_125 C_T_longOf (c_T_longOf l p.t j (by omega)) ⟨by decide, (zEL.c (Or.inl rfl) (zEL.c (Or.inl rfl) (zEL.c (Or.inl rfl) (zEL.c (Or.inl rfl) zEL.n))))⟩ (Or.inl ⟨_, _, _, _, rfl, rfl⟩) rfl rfl rfl (Nat.le_of_ble_eq_true rfl) ⟨rfl, rfl, Nat.le_of_ble_eq_true rfl, Nat.le_of_ble_eq_true rfl⟩ ⟨Nat.zero_le _, Nat.zero_le _⟩ ?_
                refine Z_isub 55 rfl ?_
                refine Z_iload 56 rfl rfl ?_
                refine Z_iadd 57 rfl ?_
                refine Z_sipush 58 rfl rfl ?_
                refine Z_icmp_le 59 rfl (tgt := 125) rfl (by omega) (by omega) (fun c118 => ?_) (fun c118 => ?_)
                · refine Z_aload_n 62 rfl rfl rfl ?_
                  refine Z_get 63 rfl f_C_14 rfl rfl ?_
                  refine Z_iload_n 64 rfl rfl rfl ?_
                  refine Z_iload_n 65 rfl rfl rfl ?_
                  refine Z_callVip (M' := M_T_partOf) 66 [1, 2, 3, 4] rfl l_C_131 C_T_partOf (c_T_partOf l p.t j what (by omega) hw) ⟨by decide, (zEL.c (Or.inl rfl) (zEL.c (Or.inl rfl) (zEL.c (Or.inl rfl) (zEL.c (Or.inl rfl) zEL.n))))⟩ (Or.inl ⟨_, _, _, _, rfl, rfl⟩) rfl rfl rfl (Nat.le_of_ble_eq_true rfl) ⟨rfl, rfl, Nat.le_of_ble_eq_true rfl, Nat.le_of_ble_eq_true rfl⟩ ⟨Nat.zero_le _, Nat.zero_le _⟩ ?_
                  refine Z_istore 67 rfl (Nat.le_of_ble_eq_true rfl) (lv' := [(7, .int _), (6, .int _), (5, .int _), (4, .int _), (0, .ref _), (1, .int _), (2, .int _), (3, .int _)]) rfl ?_
                  refine Z_aload_n 68 rfl rfl rfl ?_
                  refine Z_get 69 rfl f_C_14 rfl rfl ?_
                  refine Z_iload_n 70 rfl rfl rfl ?_
                  refine Z_iload 71 rfl rfl ?_
                  refine Z_iload 72 rfl rfl ?_
                  refine Z_iload 73 rfl rfl ?_
                  refine Z_callVv (M' := M_T_write) 74 [1, 2, 3, 4] rfl l_C_135 C_T_write (c_T_write l p.t j kk ll rr (by omega)) ⟨by decide, (zEL.c (Or.inl rfl) (zEL.c (Or.inl rfl) (zEL.c (Or.inl rfl) (zEL.c (Or.inl rfl) zEL.n))))⟩ (Or.inl ⟨_, _, _, _, rfl, rfl⟩) rfl rfl rfl (Nat.le_of_ble_eq_true rfl) ⟨rfl, rfl, Nat.le_of_ble_eq_true rfl, Nat.le_of_ble_eq_true rfl⟩ ⟨Nat.zero_le _, Nat.zero_le _⟩ (fun out hq => ?_)
                  obtain rfl := hq
                  refine Z_mem (show _ = eC (tW p.t j kk ll rr, p.2) rj s w g q q2 sm co from rfl) ?_
                  refine Z_iload 75 rfl rfl ?_
                  refine Z_iret 76 rfl rfl ⟨Nat.le_refl _, Nat.le_refl _⟩ ?_
                  first | (exfalso; omega) | exact ⟨by unfold putF; rw [← hkk, ← hll, ← hrr]; unfold putG; repeat (first | rw [cif_t (by first | assumption | omega)] | rw [cif_f (by first | assumption | omega)]), by unfold putF; rw [← hkk, ← hll, ← hrr]; unfold putG; (repeat (first | rw [cif_t (by first | assumption | omega)] | rw [cif_f (by first | assumption | omega)])) <;> rfl⟩
                · refine Z_sipush 60 rfl rfl ?_
                  refine Z_iret 61 rfl rfl ⟨Nat.le_refl _, Nat.le_refl _⟩ ?_
                  first | (exfalso; omega) | exact ⟨by unfold putF; rw [← hkk, ← hll, ← hrr]; unfold putG; repeat (first | rw [cif_t (by first | assumption | omega)] | rw [cif_f (by first | assumption | omega)]), by unfold putF; rw [← hkk, ← hll, ← hrr]; unfold putG; (repeat (first | rw [cif_t (by first | assumption | omega)] | rw [cif_f (by first | assumption | omega)])) <;> rfl⟩
              · refine Z_sipush 46 rfl rfl ?_
                refine Z_iret 47 rfl rfl ⟨Nat.le_refl _, Nat.le_refl _⟩ ?_
                first | (exfalso; omega) | exact ⟨by unfold putF; rw [← hkk, ← hll, ← hrr]; unfold putG; repeat (first | rw [cif_t (by first | assumption | omega)] | rw [cif_f (by first | assumption | omega)]), by unfold putF; rw [← hkk, ← hll, ← hrr]; unfold putG; (repeat (first | rw [cif_t (by first | assumption | omega)] | rw [cif_f (by first | assumption | omega)])) <;> rfl⟩
          · refine Z_iload_n 24 rfl rfl rfl ?_
            refine Z_goto 25 rfl (tgt := 59) rfl ?_
            refine Z_ci (show _ = ll by rw [hll]; first | (exfalso; omega) | rw [if_pos (by omega)] | rw [if_neg (by omega)]) ?_
            refine Z_istore 30 rfl (Nat.le_of_ble_eq_true rfl) (lv' := [(5, .int _), (4, .int _), (0, .ref _), (1, .int _), (2, .int _), (3, .int _)]) rfl ?_
            refine Z_iload_n 31 rfl rfl rfl ?_
            refine Z_iconst 32 rfl ?_
            refine Z_icmp_ne 33 rfl (tgt := 70) rfl (by omega) (by omega) (fun c63 => ?_) (fun c63 => ?_)
            · refine Z_aload_n 36 rfl rfl rfl ?_
              refine Z_get 37 rfl f_C_14 rfl rfl ?_
              refine Z_iload_n 38 rfl rfl rfl ?_
              refine Z_callVip (M' := M_T_riseOf) 39 [1, 2, 3, 4] rfl l_C_128 C_T_riseOf (c_T_riseOf l p.t j (by omega)) ⟨by decide, (zEL.c (Or.inl rfl) (zEL.c (Or.inl rfl) (zEL.c (Or.inl rfl) (zEL.c (Or.inl rfl) zEL.n))))⟩ (Or.inl ⟨_, _, _, _, rfl, rfl⟩) rfl rfl rfl (Nat.le_of_ble_eq_true rfl) ⟨rfl, rfl, Nat.le_of_ble_eq_true rfl, Nat.le_of_ble_eq_true rfl⟩ ⟨Nat.zero_le _, Nat.zero_le _⟩ ?_
              refine Z_ci (show _ = rr by rw [hrr]; first | (exfalso; omega) | rw [if_pos (by omega)] | rw [if_neg (by omega)]) ?_
              refine Z_istore 40 rfl (Nat.le_of_ble_eq_true rfl) (lv' := [(6, .int _), (5, .int _), (4, .int _), (0, .ref _), (1, .int _), (2, .int _), (3, .int _)]) rfl ?_
              refine Z_iload 41 rfl rfl ?_
              refine Z_iload 42 rfl rfl ?_
              refine Z_iload 43 rfl rfl ?_
              refine Z_callSbp (M' := M_C_mayBe) 44 [] rfl l_C_95 C_C_mayBe (c_C_mayBe l kk ll rr ik il ir) ⟨List.nodup_nil, zEL.n⟩ rfl rfl rfl (Nat.le_of_ble_eq_true rfl) ⟨rfl, rfl, Nat.le_of_ble_eq_true rfl, Nat.le_of_ble_eq_true rfl⟩ ⟨Nat.zero_le _, Nat.zero_le _⟩ ?_
              refine Z_ifb_ne 45 rfl (tgt := 96) rfl (fun c89 => ?_) (fun c89 => ?_)
              · have hm : 1 ≤ ll ∧ ll ≤ 360 := by have := c89; unfold mb at this; omega
                refine Z_aload_n 48 rfl rfl rfl ?_
                refine Z_get 49 rfl f_C_14 rfl rfl ?_
                refine Z_callVip (M' := M_T_total) 50 [1, 2, 3, 4] rfl l_C_103 C_T_total (c_T_total l p.t h.1.1) ⟨by decide, (zEL.c (Or.inl rfl) (zEL.c (Or.inl rfl) (zEL.c (Or.inl rfl) (zEL.c (Or.inl rfl) zEL.n))))⟩ (Or.inl ⟨_, _, _, _, rfl, rfl⟩) rfl rfl rfl (Nat.le_of_ble_eq_true rfl) ⟨rfl, rfl, Nat.le_of_ble_eq_true rfl, Nat.le_of_ble_eq_true rfl⟩ ⟨Nat.zero_le _, Nat.zero_le _⟩ ?_
                refine Z_aload_n 51 rfl rfl rfl ?_
                refine Z_get 52 rfl f_C_14 rfl rfl ?_
                refine Z_iload_n 53 rfl rfl rfl ?_
                refine Z_callVip (M' := M_T_longOf) 54 [1, 2, 3, 4] rfl l_C_125 C_T_longOf (c_T_longOf l p.t j (by omega)) ⟨by decide, (zEL.c (Or.inl rfl) (zEL.c (Or.inl rfl) (zEL.c (Or.inl rfl) (zEL.c (Or.inl rfl) zEL.n))))⟩ (Or.inl ⟨_, _, _, _, rfl, rfl⟩) rfl rfl rfl (Nat.le_of_ble_eq_true rfl) ⟨rfl, rfl, Nat.le_of_ble_eq_true rfl, Nat.le_of_ble_eq_true rfl⟩ ⟨Nat.zero_le _, Nat.zero_le _⟩ ?_
                refine Z_isub 55 rfl ?_
                refine Z_iload 56 rfl rfl ?_
                refine Z_iadd 57 rfl ?_
                refine Z_sipush 58 rfl rfl ?_
                refine Z_icmp_le 59 rfl (tgt := 125) rfl (by omega) (by omega) (fun c118 => ?_) (fun c118 => ?_)
                · refine Z_aload_n 62 rfl rfl rfl ?_
                  refine Z_get 63 rfl f_C_14 rfl rfl ?_
                  refine Z_iload_n 64 rfl rfl rfl ?_
                  refine Z_iload_n 65 rfl rfl rfl ?_
                  refine Z_callVip (M' := M_T_partOf) 66 [1, 2, 3, 4] rfl l_C_131 C_T_partOf (c_T_partOf l p.t j what (by omega) hw) ⟨by decide, (zEL.c (Or.inl rfl) (zEL.c (Or.inl rfl) (zEL.c (Or.inl rfl) (zEL.c (Or.inl rfl) zEL.n))))⟩ (Or.inl ⟨_, _, _, _, rfl, rfl⟩) rfl rfl rfl (Nat.le_of_ble_eq_true rfl) ⟨rfl, rfl, Nat.le_of_ble_eq_true rfl, Nat.le_of_ble_eq_true rfl⟩ ⟨Nat.zero_le _, Nat.zero_le _⟩ ?_
                  refine Z_istore 67 rfl (Nat.le_of_ble_eq_true rfl) (lv' := [(7, .int _), (6, .int _), (5, .int _), (4, .int _), (0, .ref _), (1, .int _), (2, .int _), (3, .int _)]) rfl ?_
                  refine Z_aload_n 68 rfl rfl rfl ?_
                  refine Z_get 69 rfl f_C_14 rfl rfl ?_
                  refine Z_iload_n 70 rfl rfl rfl ?_
                  refine Z_iload 71 rfl rfl ?_
                  refine Z_iload 72 rfl rfl ?_
                  refine Z_iload 73 rfl rfl ?_
                  refine Z_callVv (M' := M_T_write) 74 [1, 2, 3, 4] rfl l_C_135 C_T_write (c_T_write l p.t j kk ll rr (by omega)) ⟨by decide, (zEL.c (Or.inl rfl) (zEL.c (Or.inl rfl) (zEL.c (Or.inl rfl) (zEL.c (Or.inl rfl) zEL.n))))⟩ (Or.inl ⟨_, _, _, _, rfl, rfl⟩) rfl rfl rfl (Nat.le_of_ble_eq_true rfl) ⟨rfl, rfl, Nat.le_of_ble_eq_true rfl, Nat.le_of_ble_eq_true rfl⟩ ⟨Nat.zero_le _, Nat.zero_le _⟩ (fun out hq => ?_)
                  obtain rfl := hq
                  refine Z_mem (show _ = eC (tW p.t j kk ll rr, p.2) rj s w g q q2 sm co from rfl) ?_
                  refine Z_iload 75 rfl rfl ?_
                  refine Z_iret 76 rfl rfl ⟨Nat.le_refl _, Nat.le_refl _⟩ ?_
                  first | (exfalso; omega) | exact ⟨by unfold putF; rw [← hkk, ← hll, ← hrr]; unfold putG; repeat (first | rw [cif_t (by first | assumption | omega)] | rw [cif_f (by first | assumption | omega)]), by unfold putF; rw [← hkk, ← hll, ← hrr]; unfold putG; (repeat (first | rw [cif_t (by first | assumption | omega)] | rw [cif_f (by first | assumption | omega)])) <;> rfl⟩
                · refine Z_sipush 60 rfl rfl ?_
                  refine Z_iret 61 rfl rfl ⟨Nat.le_refl _, Nat.le_refl _⟩ ?_
                  first | (exfalso; omega) | exact ⟨by unfold putF; rw [← hkk, ← hll, ← hrr]; unfold putG; repeat (first | rw [cif_t (by first | assumption | omega)] | rw [cif_f (by first | assumption | omega)]), by unfold putF; rw [← hkk, ← hll, ← hrr]; unfold putG; (repeat (first | rw [cif_t (by first | assumption | omega)] | rw [cif_f (by first | assumption | omega)])) <;> rfl⟩
              · refine Z_sipush 46 rfl rfl ?_
                refine Z_iret 47 rfl rfl ⟨Nat.le_refl _, Nat.le_refl _⟩ ?_
                first | (exfalso; omega) | exact ⟨by unfold putF; rw [← hkk, ← hll, ← hrr]; unfold putG; repeat (first | rw [cif_t (by first | assumption | omega)] | rw [cif_f (by first | assumption | omega)]), by unfold putF; rw [← hkk, ← hll, ← hrr]; unfold putG; (repeat (first | rw [cif_t (by first | assumption | omega)] | rw [cif_f (by first | assumption | omega)])) <;> rfl⟩
            · refine Z_iload_n 34 rfl rfl rfl ?_
              refine Z_goto 35 rfl (tgt := 78) rfl ?_
              refine Z_ci (show _ = rr by rw [hrr]; first | (exfalso; omega) | rw [if_pos (by omega)] | rw [if_neg (by omega)]) ?_
              refine Z_istore 40 rfl (Nat.le_of_ble_eq_true rfl) (lv' := [(6, .int _), (5, .int _), (4, .int _), (0, .ref _), (1, .int _), (2, .int _), (3, .int _)]) rfl ?_
              refine Z_iload 41 rfl rfl ?_
              refine Z_iload 42 rfl rfl ?_
              refine Z_iload 43 rfl rfl ?_
              refine Z_callSbp (M' := M_C_mayBe) 44 [] rfl l_C_95 C_C_mayBe (c_C_mayBe l kk ll rr ik il ir) ⟨List.nodup_nil, zEL.n⟩ rfl rfl rfl (Nat.le_of_ble_eq_true rfl) ⟨rfl, rfl, Nat.le_of_ble_eq_true rfl, Nat.le_of_ble_eq_true rfl⟩ ⟨Nat.zero_le _, Nat.zero_le _⟩ ?_
              refine Z_ifb_ne 45 rfl (tgt := 96) rfl (fun c89 => ?_) (fun c89 => ?_)
              · have hm : 1 ≤ ll ∧ ll ≤ 360 := by have := c89; unfold mb at this; omega
                refine Z_aload_n 48 rfl rfl rfl ?_
                refine Z_get 49 rfl f_C_14 rfl rfl ?_
                refine Z_callVip (M' := M_T_total) 50 [1, 2, 3, 4] rfl l_C_103 C_T_total (c_T_total l p.t h.1.1) ⟨by decide, (zEL.c (Or.inl rfl) (zEL.c (Or.inl rfl) (zEL.c (Or.inl rfl) (zEL.c (Or.inl rfl) zEL.n))))⟩ (Or.inl ⟨_, _, _, _, rfl, rfl⟩) rfl rfl rfl (Nat.le_of_ble_eq_true rfl) ⟨rfl, rfl, Nat.le_of_ble_eq_true rfl, Nat.le_of_ble_eq_true rfl⟩ ⟨Nat.zero_le _, Nat.zero_le _⟩ ?_
                refine Z_aload_n 51 rfl rfl rfl ?_
                refine Z_get 52 rfl f_C_14 rfl rfl ?_
                refine Z_iload_n 53 rfl rfl rfl ?_
                refine Z_callVip (M' := M_T_longOf) 54 [1, 2, 3, 4] rfl l_C_125 C_T_longOf (c_T_longOf l p.t j (by omega)) ⟨by decide, (zEL.c (Or.inl rfl) (zEL.c (Or.inl rfl) (zEL.c (Or.inl rfl) (zEL.c (Or.inl rfl) zEL.n))))⟩ (Or.inl ⟨_, _, _, _, rfl, rfl⟩) rfl rfl rfl (Nat.le_of_ble_eq_true rfl) ⟨rfl, rfl, Nat.le_of_ble_eq_true rfl, Nat.le_of_ble_eq_true rfl⟩ ⟨Nat.zero_le _, Nat.zero_le _⟩ ?_
                refine Z_isub 55 rfl ?_
                refine Z_iload 56 rfl rfl ?_
                refine Z_iadd 57 rfl ?_
                refine Z_sipush 58 rfl rfl ?_
                refine Z_icmp_le 59 rfl (tgt := 125) rfl (by omega) (by omega) (fun c118 => ?_) (fun c118 => ?_)
                · refine Z_aload_n 62 rfl rfl rfl ?_
                  refine Z_get 63 rfl f_C_14 rfl rfl ?_
                  refine Z_iload_n 64 rfl rfl rfl ?_
                  refine Z_iload_n 65 rfl rfl rfl ?_
                  refine Z_callVip (M' := M_T_partOf) 66 [1, 2, 3, 4] rfl l_C_131 C_T_partOf (c_T_partOf l p.t j what (by omega) hw) ⟨by decide, (zEL.c (Or.inl rfl) (zEL.c (Or.inl rfl) (zEL.c (Or.inl rfl) (zEL.c (Or.inl rfl) zEL.n))))⟩ (Or.inl ⟨_, _, _, _, rfl, rfl⟩) rfl rfl rfl (Nat.le_of_ble_eq_true rfl) ⟨rfl, rfl, Nat.le_of_ble_eq_true rfl, Nat.le_of_ble_eq_true rfl⟩ ⟨Nat.zero_le _, Nat.zero_le _⟩ ?_
                  refine Z_istore 67 rfl (Nat.le_of_ble_eq_true rfl) (lv' := [(7, .int _), (6, .int _), (5, .int _), (4, .int _), (0, .ref _), (1, .int _), (2, .int _), (3, .int _)]) rfl ?_
                  refine Z_aload_n 68 rfl rfl rfl ?_
                  refine Z_get 69 rfl f_C_14 rfl rfl ?_
                  refine Z_iload_n 70 rfl rfl rfl ?_
                  refine Z_iload 71 rfl rfl ?_
                  refine Z_iload 72 rfl rfl ?_
                  refine Z_iload 73 rfl rfl ?_
                  refine Z_callVv (M' := M_T_write) 74 [1, 2, 3, 4] rfl l_C_135 C_T_write (c_T_write l p.t j kk ll rr (by omega)) ⟨by decide, (zEL.c (Or.inl rfl) (zEL.c (Or.inl rfl) (zEL.c (Or.inl rfl) (zEL.c (Or.inl rfl) zEL.n))))⟩ (Or.inl ⟨_, _, _, _, rfl, rfl⟩) rfl rfl rfl (Nat.le_of_ble_eq_true rfl) ⟨rfl, rfl, Nat.le_of_ble_eq_true rfl, Nat.le_of_ble_eq_true rfl⟩ ⟨Nat.zero_le _, Nat.zero_le _⟩ (fun out hq => ?_)
                  obtain rfl := hq
                  refine Z_mem (show _ = eC (tW p.t j kk ll rr, p.2) rj s w g q q2 sm co from rfl) ?_
                  refine Z_iload 75 rfl rfl ?_
                  refine Z_iret 76 rfl rfl ⟨Nat.le_refl _, Nat.le_refl _⟩ ?_
                  first | (exfalso; omega) | exact ⟨by unfold putF; rw [← hkk, ← hll, ← hrr]; unfold putG; repeat (first | rw [cif_t (by first | assumption | omega)] | rw [cif_f (by first | assumption | omega)]), by unfold putF; rw [← hkk, ← hll, ← hrr]; unfold putG; (repeat (first | rw [cif_t (by first | assumption | omega)] | rw [cif_f (by first | assumption | omega)])) <;> rfl⟩
                · refine Z_sipush 60 rfl rfl ?_
                  refine Z_iret 61 rfl rfl ⟨Nat.le_refl _, Nat.le_refl _⟩ ?_
                  first | (exfalso; omega) | exact ⟨by unfold putF; rw [← hkk, ← hll, ← hrr]; unfold putG; repeat (first | rw [cif_t (by first | assumption | omega)] | rw [cif_f (by first | assumption | omega)]), by unfold putF; rw [← hkk, ← hll, ← hrr]; unfold putG; (repeat (first | rw [cif_t (by first | assumption | omega)] | rw [cif_f (by first | assumption | omega)])) <;> rfl⟩
              · refine Z_sipush 46 rfl rfl ?_
                refine Z_iret 47 rfl rfl ⟨Nat.le_refl _, Nat.le_refl _⟩ ?_
                first | (exfalso; omega) | exact ⟨by unfold putF; rw [← hkk, ← hll, ← hrr]; unfold putG; repeat (first | rw [cif_t (by first | assumption | omega)] | rw [cif_f (by first | assumption | omega)]), by unfold putF; rw [← hkk, ← hll, ← hrr]; unfold putG; (repeat (first | rw [cif_t (by first | assumption | omega)] | rw [cif_f (by first | assumption | omega)])) <;> rfl⟩
        · refine Z_iload_n 14 rfl rfl rfl ?_
          refine Z_goto 15 rfl (tgt := 40) rfl ?_
          refine Z_ci (show _ = kk by rw [hkk]; first | (exfalso; omega) | rw [if_pos (by omega)] | rw [if_neg (by omega)]) ?_
          refine Z_istore 20 rfl (Nat.le_of_ble_eq_true rfl) (lv' := [(4, .int _), (0, .ref _), (1, .int _), (2, .int _), (3, .int _)]) rfl ?_
          refine Z_iload_n 21 rfl rfl rfl ?_
          refine Z_iconst 22 rfl ?_
          refine Z_icmp_ne 23 rfl (tgt := 51) rfl (by omega) (by omega) (fun c44 => ?_) (fun c44 => ?_)
          · refine Z_aload_n 26 rfl rfl rfl ?_
            refine Z_get 27 rfl f_C_14 rfl rfl ?_
            refine Z_iload_n 28 rfl rfl rfl ?_
            refine Z_callVip (M' := M_T_longOf) 29 [1, 2, 3, 4] rfl l_C_125 C_T_longOf (c_T_longOf l p.t j (by omega)) ⟨by decide, (zEL.c (Or.inl rfl) (zEL.c (Or.inl rfl) (zEL.c (Or.inl rfl) (zEL.c (Or.inl rfl) zEL.n))))⟩ (Or.inl ⟨_, _, _, _, rfl, rfl⟩) rfl rfl rfl (Nat.le_of_ble_eq_true rfl) ⟨rfl, rfl, Nat.le_of_ble_eq_true rfl, Nat.le_of_ble_eq_true rfl⟩ ⟨Nat.zero_le _, Nat.zero_le _⟩ ?_
            refine Z_ci (show _ = ll by rw [hll]; first | (exfalso; omega) | rw [if_pos (by omega)] | rw [if_neg (by omega)]) ?_
            refine Z_istore 30 rfl (Nat.le_of_ble_eq_true rfl) (lv' := [(5, .int _), (4, .int _), (0, .ref _), (1, .int _), (2, .int _), (3, .int _)]) rfl ?_
            refine Z_iload_n 31 rfl rfl rfl ?_
            refine Z_iconst 32 rfl ?_
            refine Z_icmp_ne 33 rfl (tgt := 70) rfl (by omega) (by omega) (fun c63 => ?_) (fun c63 => ?_)
            · refine Z_aload_n 36 rfl rfl rfl ?_
              refine Z_get 37 rfl f_C_14 rfl rfl ?_
              refine Z_iload_n 38 rfl rfl rfl ?_
              refine Z_callVip (M' := M_T_riseOf) 39 [1, 2, 3, 4] rfl l_C_128 C_T_riseOf (c_T_riseOf l p.t j (by omega)) ⟨by decide, (zEL.c (Or.inl rfl) (zEL.c (Or.inl rfl) (zEL.c (Or.inl rfl) (zEL.c (Or.inl rfl) zEL.n))))⟩ (Or.inl ⟨_, _, _, _, rfl, rfl⟩) rfl rfl rfl (Nat.le_of_ble_eq_true rfl) ⟨rfl, rfl, Nat.le_of_ble_eq_true rfl, Nat.le_of_ble_eq_true rfl⟩ ⟨Nat.zero_le _, Nat.zero_le _⟩ ?_
              refine Z_ci (show _ = rr by rw [hrr]; first | (exfalso; omega) | rw [if_pos (by omega)] | rw [if_neg (by omega)]) ?_
              refine Z_istore 40 rfl (Nat.le_of_ble_eq_true rfl) (lv' := [(6, .int _), (5, .int _), (4, .int _), (0, .ref _), (1, .int _), (2, .int _), (3, .int _)]) rfl ?_
              refine Z_iload 41 rfl rfl ?_
              refine Z_iload 42 rfl rfl ?_
              refine Z_iload 43 rfl rfl ?_
              refine Z_callSbp (M' := M_C_mayBe) 44 [] rfl l_C_95 C_C_mayBe (c_C_mayBe l kk ll rr ik il ir) ⟨List.nodup_nil, zEL.n⟩ rfl rfl rfl (Nat.le_of_ble_eq_true rfl) ⟨rfl, rfl, Nat.le_of_ble_eq_true rfl, Nat.le_of_ble_eq_true rfl⟩ ⟨Nat.zero_le _, Nat.zero_le _⟩ ?_
              refine Z_ifb_ne 45 rfl (tgt := 96) rfl (fun c89 => ?_) (fun c89 => ?_)
              · have hm : 1 ≤ ll ∧ ll ≤ 360 := by have := c89; unfold mb at this; omega
                refine Z_aload_n 48 rfl rfl rfl ?_
                refine Z_get 49 rfl f_C_14 rfl rfl ?_
                refine Z_callVip (M' := M_T_total) 50 [1, 2, 3, 4] rfl l_C_103 C_T_total (c_T_total l p.t h.1.1) ⟨by decide, (zEL.c (Or.inl rfl) (zEL.c (Or.inl rfl) (zEL.c (Or.inl rfl) (zEL.c (Or.inl rfl) zEL.n))))⟩ (Or.inl ⟨_, _, _, _, rfl, rfl⟩) rfl rfl rfl (Nat.le_of_ble_eq_true rfl) ⟨rfl, rfl, Nat.le_of_ble_eq_true rfl, Nat.le_of_ble_eq_true rfl⟩ ⟨Nat.zero_le _, Nat.zero_le _⟩ ?_
                refine Z_aload_n 51 rfl rfl rfl ?_
                refine Z_get 52 rfl f_C_14 rfl rfl ?_
                refine Z_iload_n 53 rfl rfl rfl ?_
                refine Z_callVip (M' := M_T_longOf) 54 [1, 2, 3, 4] rfl l_C_125 C_T_longOf (c_T_longOf l p.t j (by omega)) ⟨by decide, (zEL.c (Or.inl rfl) (zEL.c (Or.inl rfl) (zEL.c (Or.inl rfl) (zEL.c (Or.inl rfl) zEL.n))))⟩ (Or.inl ⟨_, _, _, _, rfl, rfl⟩) rfl rfl rfl (Nat.le_of_ble_eq_true rfl) ⟨rfl, rfl, Nat.le_of_ble_eq_true rfl, Nat.le_of_ble_eq_true rfl⟩ ⟨Nat.zero_le _, Nat.zero_le _⟩ ?_
                refine Z_isub 55 rfl ?_
                refine Z_iload 56 rfl rfl ?_
                refine Z_iadd 57 rfl ?_
                refine Z_sipush 58 rfl rfl ?_
                refine Z_icmp_le 59 rfl (tgt := 125) rfl (by omega) (by omega) (fun c118 => ?_) (fun c118 => ?_)
                · refine Z_aload_n 62 rfl rfl rfl ?_
                  refine Z_get 63 rfl f_C_14 rfl rfl ?_
                  refine Z_iload_n 64 rfl rfl rfl ?_
                  refine Z_iload_n 65 rfl rfl rfl ?_
                  refine Z_callVip (M' := M_T_partOf) 66 [1, 2, 3, 4] rfl l_C_131 C_T_partOf (c_T_partOf l p.t j what (by omega) hw) ⟨by decide, (zEL.c (Or.inl rfl) (zEL.c (Or.inl rfl) (zEL.c (Or.inl rfl) (zEL.c (Or.inl rfl) zEL.n))))⟩ (Or.inl ⟨_, _, _, _, rfl, rfl⟩) rfl rfl rfl (Nat.le_of_ble_eq_true rfl) ⟨rfl, rfl, Nat.le_of_ble_eq_true rfl, Nat.le_of_ble_eq_true rfl⟩ ⟨Nat.zero_le _, Nat.zero_le _⟩ ?_
                  refine Z_istore 67 rfl (Nat.le_of_ble_eq_true rfl) (lv' := [(7, .int _), (6, .int _), (5, .int _), (4, .int _), (0, .ref _), (1, .int _), (2, .int _), (3, .int _)]) rfl ?_
                  refine Z_aload_n 68 rfl rfl rfl ?_
                  refine Z_get 69 rfl f_C_14 rfl rfl ?_
                  refine Z_iload_n 70 rfl rfl rfl ?_
                  refine Z_iload 71 rfl rfl ?_
                  refine Z_iload 72 rfl rfl ?_
                  refine Z_iload 73 rfl rfl ?_
                  refine Z_callVv (M' := M_T_write) 74 [1, 2, 3, 4] rfl l_C_135 C_T_write (c_T_write l p.t j kk ll rr (by omega)) ⟨by decide, (zEL.c (Or.inl rfl) (zEL.c (Or.inl rfl) (zEL.c (Or.inl rfl) (zEL.c (Or.inl rfl) zEL.n))))⟩ (Or.inl ⟨_, _, _, _, rfl, rfl⟩) rfl rfl rfl (Nat.le_of_ble_eq_true rfl) ⟨rfl, rfl, Nat.le_of_ble_eq_true rfl, Nat.le_of_ble_eq_true rfl⟩ ⟨Nat.zero_le _, Nat.zero_le _⟩ (fun out hq => ?_)
                  obtain rfl := hq
                  refine Z_mem (show _ = eC (tW p.t j kk ll rr, p.2) rj s w g q q2 sm co from rfl) ?_
                  refine Z_iload 75 rfl rfl ?_
                  refine Z_iret 76 rfl rfl ⟨Nat.le_refl _, Nat.le_refl _⟩ ?_
                  first | (exfalso; omega) | exact ⟨by unfold putF; rw [← hkk, ← hll, ← hrr]; unfold putG; repeat (first | rw [cif_t (by first | assumption | omega)] | rw [cif_f (by first | assumption | omega)]), by unfold putF; rw [← hkk, ← hll, ← hrr]; unfold putG; (repeat (first | rw [cif_t (by first | assumption | omega)] | rw [cif_f (by first | assumption | omega)])) <;> rfl⟩
                · refine Z_sipush 60 rfl rfl ?_
                  refine Z_iret 61 rfl rfl ⟨Nat.le_refl _, Nat.le_refl _⟩ ?_
                  first | (exfalso; omega) | exact ⟨by unfold putF; rw [← hkk, ← hll, ← hrr]; unfold putG; repeat (first | rw [cif_t (by first | assumption | omega)] | rw [cif_f (by first | assumption | omega)]), by unfold putF; rw [← hkk, ← hll, ← hrr]; unfold putG; (repeat (first | rw [cif_t (by first | assumption | omega)] | rw [cif_f (by first | assumption | omega)])) <;> rfl⟩
              · refine Z_sipush 46 rfl rfl ?_
                refine Z_iret 47 rfl rfl ⟨Nat.le_refl _, Nat.le_refl _⟩ ?_
                first | (exfalso; omega) | exact ⟨by unfold putF; rw [← hkk, ← hll, ← hrr]; unfold putG; repeat (first | rw [cif_t (by first | assumption | omega)] | rw [cif_f (by first | assumption | omega)]), by unfold putF; rw [← hkk, ← hll, ← hrr]; unfold putG; (repeat (first | rw [cif_t (by first | assumption | omega)] | rw [cif_f (by first | assumption | omega)])) <;> rfl⟩
            · refine Z_iload_n 34 rfl rfl rfl ?_
              refine Z_goto 35 rfl (tgt := 78) rfl ?_
              refine Z_ci (show _ = rr by rw [hrr]; first | (exfalso; omega) | rw [if_pos (by omega)] | rw [if_neg (by omega)]) ?_
              refine Z_istore 40 rfl (Nat.le_of_ble_eq_true rfl) (lv' := [(6, .int _), (5, .int _), (4, .int _), (0, .ref _), (1, .int _), (2, .int _), (3, .int _)]) rfl ?_
              refine Z_iload 41 rfl rfl ?_
              refine Z_iload 42 rfl rfl ?_
              refine Z_iload 43 rfl rfl ?_
              refine Z_callSbp (M' := M_C_mayBe) 44 [] rfl l_C_95 C_C_mayBe (c_C_mayBe l kk ll rr ik il ir) ⟨List.nodup_nil, zEL.n⟩ rfl rfl rfl (Nat.le_of_ble_eq_true rfl) ⟨rfl, rfl, Nat.le_of_ble_eq_true rfl, Nat.le_of_ble_eq_true rfl⟩ ⟨Nat.zero_le _, Nat.zero_le _⟩ ?_
              refine Z_ifb_ne 45 rfl (tgt := 96) rfl (fun c89 => ?_) (fun c89 => ?_)
              · have hm : 1 ≤ ll ∧ ll ≤ 360 := by have := c89; unfold mb at this; omega
                refine Z_aload_n 48 rfl rfl rfl ?_
                refine Z_get 49 rfl f_C_14 rfl rfl ?_
                refine Z_callVip (M' := M_T_total) 50 [1, 2, 3, 4] rfl l_C_103 C_T_total (c_T_total l p.t h.1.1) ⟨by decide, (zEL.c (Or.inl rfl) (zEL.c (Or.inl rfl) (zEL.c (Or.inl rfl) (zEL.c (Or.inl rfl) zEL.n))))⟩ (Or.inl ⟨_, _, _, _, rfl, rfl⟩) rfl rfl rfl (Nat.le_of_ble_eq_true rfl) ⟨rfl, rfl, Nat.le_of_ble_eq_true rfl, Nat.le_of_ble_eq_true rfl⟩ ⟨Nat.zero_le _, Nat.zero_le _⟩ ?_
                refine Z_aload_n 51 rfl rfl rfl ?_
                refine Z_get 52 rfl f_C_14 rfl rfl ?_
                refine Z_iload_n 53 rfl rfl rfl ?_
                refine Z_callVip (M' := M_T_longOf) 54 [1, 2, 3, 4] rfl l_C_125 C_T_longOf (c_T_longOf l p.t j (by omega)) ⟨by decide, (zEL.c (Or.inl rfl) (zEL.c (Or.inl rfl) (zEL.c (Or.inl rfl) (zEL.c (Or.inl rfl) zEL.n))))⟩ (Or.inl ⟨_, _, _, _, rfl, rfl⟩) rfl rfl rfl (Nat.le_of_ble_eq_true rfl) ⟨rfl, rfl, Nat.le_of_ble_eq_true rfl, Nat.le_of_ble_eq_true rfl⟩ ⟨Nat.zero_le _, Nat.zero_le _⟩ ?_
                refine Z_isub 55 rfl ?_
                refine Z_iload 56 rfl rfl ?_
                refine Z_iadd 57 rfl ?_
                refine Z_sipush 58 rfl rfl ?_
                refine Z_icmp_le 59 rfl (tgt := 125) rfl (by omega) (by omega) (fun c118 => ?_) (fun c118 => ?_)
                · refine Z_aload_n 62 rfl rfl rfl ?_
                  refine Z_get 63 rfl f_C_14 rfl rfl ?_
                  refine Z_iload_n 64 rfl rfl rfl ?_
                  refine Z_iload_n 65 rfl rfl rfl ?_
                  refine Z_callVip (M' := M_T_partOf) 66 [1, 2, 3, 4] rfl l_C_131 C_T_partOf (c_T_partOf l p.t j what (by omega) hw) ⟨by decide, (zEL.c (Or.inl rfl) (zEL.c (Or.inl rfl) (zEL.c (Or.inl rfl) (zEL.c (Or.inl rfl) zEL.n))))⟩ (Or.inl ⟨_, _, _, _, rfl, rfl⟩) rfl rfl rfl (Nat.le_of_ble_eq_true rfl) ⟨rfl, rfl, Nat.le_of_ble_eq_true rfl, Nat.le_of_ble_eq_true rfl⟩ ⟨Nat.zero_le _, Nat.zero_le _⟩ ?_
                  refine Z_istore 67 rfl (Nat.le_of_ble_eq_true rfl) (lv' := [(7, .int _), (6, .int _), (5, .int _), (4, .int _), (0, .ref _), (1, .int _), (2, .int _), (3, .int _)]) rfl ?_
                  refine Z_aload_n 68 rfl rfl rfl ?_
                  refine Z_get 69 rfl f_C_14 rfl rfl ?_
                  refine Z_iload_n 70 rfl rfl rfl ?_
                  refine Z_iload 71 rfl rfl ?_
                  refine Z_iload 72 rfl rfl ?_
                  refine Z_iload 73 rfl rfl ?_
                  refine Z_callVv (M' := M_T_write) 74 [1, 2, 3, 4] rfl l_C_135 C_T_write (c_T_write l p.t j kk ll rr (by omega)) ⟨by decide, (zEL.c (Or.inl rfl) (zEL.c (Or.inl rfl) (zEL.c (Or.inl rfl) (zEL.c (Or.inl rfl) zEL.n))))⟩ (Or.inl ⟨_, _, _, _, rfl, rfl⟩) rfl rfl rfl (Nat.le_of_ble_eq_true rfl) ⟨rfl, rfl, Nat.le_of_ble_eq_true rfl, Nat.le_of_ble_eq_true rfl⟩ ⟨Nat.zero_le _, Nat.zero_le _⟩ (fun out hq => ?_)
                  obtain rfl := hq
                  refine Z_mem (show _ = eC (tW p.t j kk ll rr, p.2) rj s w g q q2 sm co from rfl) ?_
                  refine Z_iload 75 rfl rfl ?_
                  refine Z_iret 76 rfl rfl ⟨Nat.le_refl _, Nat.le_refl _⟩ ?_
                  first | (exfalso; omega) | exact ⟨by unfold putF; rw [← hkk, ← hll, ← hrr]; unfold putG; repeat (first | rw [cif_t (by first | assumption | omega)] | rw [cif_f (by first | assumption | omega)]), by unfold putF; rw [← hkk, ← hll, ← hrr]; unfold putG; (repeat (first | rw [cif_t (by first | assumption | omega)] | rw [cif_f (by first | assumption | omega)])) <;> rfl⟩
                · refine Z_sipush 60 rfl rfl ?_
                  refine Z_iret 61 rfl rfl ⟨Nat.le_refl _, Nat.le_refl _⟩ ?_
                  first | (exfalso; omega) | exact ⟨by unfold putF; rw [← hkk, ← hll, ← hrr]; unfold putG; repeat (first | rw [cif_t (by first | assumption | omega)] | rw [cif_f (by first | assumption | omega)]), by unfold putF; rw [← hkk, ← hll, ← hrr]; unfold putG; (repeat (first | rw [cif_t (by first | assumption | omega)] | rw [cif_f (by first | assumption | omega)])) <;> rfl⟩
              · refine Z_sipush 46 rfl rfl ?_
                refine Z_iret 47 rfl rfl ⟨Nat.le_refl _, Nat.le_refl _⟩ ?_
                first | (exfalso; omega) | exact ⟨by unfold putF; rw [← hkk, ← hll, ← hrr]; unfold putG; repeat (first | rw [cif_t (by first | assumption | omega)] | rw [cif_f (by first | assumption | omega)]), by unfold putF; rw [← hkk, ← hll, ← hrr]; unfold putG; (repeat (first | rw [cif_t (by first | assumption | omega)] | rw [cif_f (by first | assumption | omega)])) <;> rfl⟩
          · refine Z_iload_n 24 rfl rfl rfl ?_
            refine Z_goto 25 rfl (tgt := 59) rfl ?_
            refine Z_ci (show _ = ll by rw [hll]; first | (exfalso; omega) | rw [if_pos (by omega)] | rw [if_neg (by omega)]) ?_
            refine Z_istore 30 rfl (Nat.le_of_ble_eq_true rfl) (lv' := [(5, .int _), (4, .int _), (0, .ref _), (1, .int _), (2, .int _), (3, .int _)]) rfl ?_
            refine Z_iload_n 31 rfl rfl rfl ?_
            refine Z_iconst 32 rfl ?_
            refine Z_icmp_ne 33 rfl (tgt := 70) rfl (by omega) (by omega) (fun c63 => ?_) (fun c63 => ?_)
            · refine Z_aload_n 36 rfl rfl rfl ?_
              refine Z_get 37 rfl f_C_14 rfl rfl ?_
              refine Z_iload_n 38 rfl rfl rfl ?_
              refine Z_callVip (M' := M_T_riseOf) 39 [1, 2, 3, 4] rfl l_C_128 C_T_riseOf (c_T_riseOf l p.t j (by omega)) ⟨by decide, (zEL.c (Or.inl rfl) (zEL.c (Or.inl rfl) (zEL.c (Or.inl rfl) (zEL.c (Or.inl rfl) zEL.n))))⟩ (Or.inl ⟨_, _, _, _, rfl, rfl⟩) rfl rfl rfl (Nat.le_of_ble_eq_true rfl) ⟨rfl, rfl, Nat.le_of_ble_eq_true rfl, Nat.le_of_ble_eq_true rfl⟩ ⟨Nat.zero_le _, Nat.zero_le _⟩ ?_
              refine Z_ci (show _ = rr by rw [hrr]; first | (exfalso; omega) | rw [if_pos (by omega)] | rw [if_neg (by omega)]) ?_
              refine Z_istore 40 rfl (Nat.le_of_ble_eq_true rfl) (lv' := [(6, .int _), (5, .int _), (4, .int _), (0, .ref _), (1, .int _), (2, .int _), (3, .int _)]) rfl ?_
              refine Z_iload 41 rfl rfl ?_
              refine Z_iload 42 rfl rfl ?_
              refine Z_iload 43 rfl rfl ?_
              refine Z_callSbp (M' := M_C_mayBe) 44 [] rfl l_C_95 C_C_mayBe (c_C_mayBe l kk ll rr ik il ir) ⟨List.nodup_nil, zEL.n⟩ rfl rfl rfl (Nat.le_of_ble_eq_true rfl) ⟨rfl, rfl, Nat.le_of_ble_eq_true rfl, Nat.le_of_ble_eq_true rfl⟩ ⟨Nat.zero_le _, Nat.zero_le _⟩ ?_
              refine Z_ifb_ne 45 rfl (tgt := 96) rfl (fun c89 => ?_) (fun c89 => ?_)
              · have hm : 1 ≤ ll ∧ ll ≤ 360 := by have := c89; unfold mb at this; omega
                refine Z_aload_n 48 rfl rfl rfl ?_
                refine Z_get 49 rfl f_C_14 rfl rfl ?_
                refine Z_callVip (M' := M_T_total) 50 [1, 2, 3, 4] rfl l_C_103 C_T_total (c_T_total l p.t h.1.1) ⟨by decide, (zEL.c (Or.inl rfl) (zEL.c (Or.inl rfl) (zEL.c (Or.inl rfl) (zEL.c (Or.inl rfl) zEL.n))))⟩ (Or.inl ⟨_, _, _, _, rfl, rfl⟩) rfl rfl rfl (Nat.le_of_ble_eq_true rfl) ⟨rfl, rfl, Nat.le_of_ble_eq_true rfl, Nat.le_of_ble_eq_true rfl⟩ ⟨Nat.zero_le _, Nat.zero_le _⟩ ?_
                refine Z_aload_n 51 rfl rfl rfl ?_
                refine Z_get 52 rfl f_C_14 rfl rfl ?_
                refine Z_iload_n 53 rfl rfl rfl ?_
                refine Z_callVip (M' := M_T_longOf) 54 [1, 2, 3, 4] rfl l_C_125 C_T_longOf (c_T_longOf l p.t j (by omega)) ⟨by decide, (zEL.c (Or.inl rfl) (zEL.c (Or.inl rfl) (zEL.c (Or.inl rfl) (zEL.c (Or.inl rfl) zEL.n))))⟩ (Or.inl ⟨_, _, _, _, rfl, rfl⟩) rfl rfl rfl (Nat.le_of_ble_eq_true rfl) ⟨rfl, rfl, Nat.le_of_ble_eq_true rfl, Nat.le_of_ble_eq_true rfl⟩ ⟨Nat.zero_le _, Nat.zero_le _⟩ ?_
                refine Z_isub 55 rfl ?_
                refine Z_iload 56 rfl rfl ?_
                refine Z_iadd 57 rfl ?_
                refine Z_sipush 58 rfl rfl ?_
                refine Z_icmp_le 59 rfl (tgt := 125) rfl (by omega) (by omega) (fun c118 => ?_) (fun c118 => ?_)
                · refine Z_aload_n 62 rfl rfl rfl ?_
                  refine Z_get 63 rfl f_C_14 rfl rfl ?_
                  refine Z_iload_n 64 rfl rfl rfl ?_
                  refine Z_iload_n 65 rfl rfl rfl ?_
                  refine Z_callVip (M' := M_T_partOf) 66 [1, 2, 3, 4] rfl l_C_131 C_T_partOf (c_T_partOf l p.t j what (by omega) hw) ⟨by decide, (zEL.c (Or.inl rfl) (zEL.c (Or.inl rfl) (zEL.c (Or.inl rfl) (zEL.c (Or.inl rfl) zEL.n))))⟩ (Or.inl ⟨_, _, _, _, rfl, rfl⟩) rfl rfl rfl (Nat.le_of_ble_eq_true rfl) ⟨rfl, rfl, Nat.le_of_ble_eq_true rfl, Nat.le_of_ble_eq_true rfl⟩ ⟨Nat.zero_le _, Nat.zero_le _⟩ ?_
                  refine Z_istore 67 rfl (Nat.le_of_ble_eq_true rfl) (lv' := [(7, .int _), (6, .int _), (5, .int _), (4, .int _), (0, .ref _), (1, .int _), (2, .int _), (3, .int _)]) rfl ?_
                  refine Z_aload_n 68 rfl rfl rfl ?_
                  refine Z_get 69 rfl f_C_14 rfl rfl ?_
                  refine Z_iload_n 70 rfl rfl rfl ?_
                  refine Z_iload 71 rfl rfl ?_
                  refine Z_iload 72 rfl rfl ?_
                  refine Z_iload 73 rfl rfl ?_
                  refine Z_callVv (M' := M_T_write) 74 [1, 2, 3, 4] rfl l_C_135 C_T_write (c_T_write l p.t j kk ll rr (by omega)) ⟨by decide, (zEL.c (Or.inl rfl) (zEL.c (Or.inl rfl) (zEL.c (Or.inl rfl) (zEL.c (Or.inl rfl) zEL.n))))⟩ (Or.inl ⟨_, _, _, _, rfl, rfl⟩) rfl rfl rfl (Nat.le_of_ble_eq_true rfl) ⟨rfl, rfl, Nat.le_of_ble_eq_true rfl, Nat.le_of_ble_eq_true rfl⟩ ⟨Nat.zero_le _, Nat.zero_le _⟩ (fun out hq => ?_)
                  obtain rfl := hq
                  refine Z_mem (show _ = eC (tW p.t j kk ll rr, p.2) rj s w g q q2 sm co from rfl) ?_
                  refine Z_iload 75 rfl rfl ?_
                  refine Z_iret 76 rfl rfl ⟨Nat.le_refl _, Nat.le_refl _⟩ ?_
                  first | (exfalso; omega) | exact ⟨by unfold putF; rw [← hkk, ← hll, ← hrr]; unfold putG; repeat (first | rw [cif_t (by first | assumption | omega)] | rw [cif_f (by first | assumption | omega)]), by unfold putF; rw [← hkk, ← hll, ← hrr]; unfold putG; (repeat (first | rw [cif_t (by first | assumption | omega)] | rw [cif_f (by first | assumption | omega)])) <;> rfl⟩
                · refine Z_sipush 60 rfl rfl ?_
                  refine Z_iret 61 rfl rfl ⟨Nat.le_refl _, Nat.le_refl _⟩ ?_
                  first | (exfalso; omega) | exact ⟨by unfold putF; rw [← hkk, ← hll, ← hrr]; unfold putG; repeat (first | rw [cif_t (by first | assumption | omega)] | rw [cif_f (by first | assumption | omega)]), by unfold putF; rw [← hkk, ← hll, ← hrr]; unfold putG; (repeat (first | rw [cif_t (by first | assumption | omega)] | rw [cif_f (by first | assumption | omega)])) <;> rfl⟩
              · refine Z_sipush 46 rfl rfl ?_
                refine Z_iret 47 rfl rfl ⟨Nat.le_refl _, Nat.le_refl _⟩ ?_
                first | (exfalso; omega) | exact ⟨by unfold putF; rw [← hkk, ← hll, ← hrr]; unfold putG; repeat (first | rw [cif_t (by first | assumption | omega)] | rw [cif_f (by first | assumption | omega)]), by unfold putF; rw [← hkk, ← hll, ← hrr]; unfold putG; (repeat (first | rw [cif_t (by first | assumption | omega)] | rw [cif_f (by first | assumption | omega)])) <;> rfl⟩
            · refine Z_iload_n 34 rfl rfl rfl ?_
              refine Z_goto 35 rfl (tgt := 78) rfl ?_
              refine Z_ci (show _ = rr by rw [hrr]; first | (exfalso; omega) | rw [if_pos (by omega)] | rw [if_neg (by omega)]) ?_
              refine Z_istore 40 rfl (Nat.le_of_ble_eq_true rfl) (lv' := [(6, .int _), (5, .int _), (4, .int _), (0, .ref _), (1, .int _), (2, .int _), (3, .int _)]) rfl ?_
              refine Z_iload 41 rfl rfl ?_
              refine Z_iload 42 rfl rfl ?_
              refine Z_iload 43 rfl rfl ?_
              refine Z_callSbp (M' := M_C_mayBe) 44 [] rfl l_C_95 C_C_mayBe (c_C_mayBe l kk ll rr ik il ir) ⟨List.nodup_nil, zEL.n⟩ rfl rfl rfl (Nat.le_of_ble_eq_true rfl) ⟨rfl, rfl, Nat.le_of_ble_eq_true rfl, Nat.le_of_ble_eq_true rfl⟩ ⟨Nat.zero_le _, Nat.zero_le _⟩ ?_
              refine Z_ifb_ne 45 rfl (tgt := 96) rfl (fun c89 => ?_) (fun c89 => ?_)
              · have hm : 1 ≤ ll ∧ ll ≤ 360 := by have := c89; unfold mb at this; omega
                refine Z_aload_n 48 rfl rfl rfl ?_
                refine Z_get 49 rfl f_C_14 rfl rfl ?_
                refine Z_callVip (M' := M_T_total) 50 [1, 2, 3, 4] rfl l_C_103 C_T_total (c_T_total l p.t h.1.1) ⟨by decide, (zEL.c (Or.inl rfl) (zEL.c (Or.inl rfl) (zEL.c (Or.inl rfl) (zEL.c (Or.inl rfl) zEL.n))))⟩ (Or.inl ⟨_, _, _, _, rfl, rfl⟩) rfl rfl rfl (Nat.le_of_ble_eq_true rfl) ⟨rfl, rfl, Nat.le_of_ble_eq_true rfl, Nat.le_of_ble_eq_true rfl⟩ ⟨Nat.zero_le _, Nat.zero_le _⟩ ?_
                refine Z_aload_n 51 rfl rfl rfl ?_
                refine Z_get 52 rfl f_C_14 rfl rfl ?_
                refine Z_iload_n 53 rfl rfl rfl ?_
                refine Z_callVip (M' := M_T_longOf) 54 [1, 2, 3, 4] rfl l_C_125 C_T_longOf (c_T_longOf l p.t j (by omega)) ⟨by decide, (zEL.c (Or.inl rfl) (zEL.c (Or.inl rfl) (zEL.c (Or.inl rfl) (zEL.c (Or.inl rfl) zEL.n))))⟩ (Or.inl ⟨_, _, _, _, rfl, rfl⟩) rfl rfl rfl (Nat.le_of_ble_eq_true rfl) ⟨rfl, rfl, Nat.le_of_ble_eq_true rfl, Nat.le_of_ble_eq_true rfl⟩ ⟨Nat.zero_le _, Nat.zero_le _⟩ ?_
                refine Z_isub 55 rfl ?_
                refine Z_iload 56 rfl rfl ?_
                refine Z_iadd 57 rfl ?_
                refine Z_sipush 58 rfl rfl ?_
                refine Z_icmp_le 59 rfl (tgt := 125) rfl (by omega) (by omega) (fun c118 => ?_) (fun c118 => ?_)
                · refine Z_aload_n 62 rfl rfl rfl ?_
                  refine Z_get 63 rfl f_C_14 rfl rfl ?_
                  refine Z_iload_n 64 rfl rfl rfl ?_
                  refine Z_iload_n 65 rfl rfl rfl ?_
                  refine Z_callVip (M' := M_T_partOf) 66 [1, 2, 3, 4] rfl l_C_131 C_T_partOf (c_T_partOf l p.t j what (by omega) hw) ⟨by decide, (zEL.c (Or.inl rfl) (zEL.c (Or.inl rfl) (zEL.c (Or.inl rfl) (zEL.c (Or.inl rfl) zEL.n))))⟩ (Or.inl ⟨_, _, _, _, rfl, rfl⟩) rfl rfl rfl (Nat.le_of_ble_eq_true rfl) ⟨rfl, rfl, Nat.le_of_ble_eq_true rfl, Nat.le_of_ble_eq_true rfl⟩ ⟨Nat.zero_le _, Nat.zero_le _⟩ ?_
                  refine Z_istore 67 rfl (Nat.le_of_ble_eq_true rfl) (lv' := [(7, .int _), (6, .int _), (5, .int _), (4, .int _), (0, .ref _), (1, .int _), (2, .int _), (3, .int _)]) rfl ?_
                  refine Z_aload_n 68 rfl rfl rfl ?_
                  refine Z_get 69 rfl f_C_14 rfl rfl ?_
                  refine Z_iload_n 70 rfl rfl rfl ?_
                  refine Z_iload 71 rfl rfl ?_
                  refine Z_iload 72 rfl rfl ?_
                  refine Z_iload 73 rfl rfl ?_
                  refine Z_callVv (M' := M_T_write) 74 [1, 2, 3, 4] rfl l_C_135 C_T_write (c_T_write l p.t j kk ll rr (by omega)) ⟨by decide, (zEL.c (Or.inl rfl) (zEL.c (Or.inl rfl) (zEL.c (Or.inl rfl) (zEL.c (Or.inl rfl) zEL.n))))⟩ (Or.inl ⟨_, _, _, _, rfl, rfl⟩) rfl rfl rfl (Nat.le_of_ble_eq_true rfl) ⟨rfl, rfl, Nat.le_of_ble_eq_true rfl, Nat.le_of_ble_eq_true rfl⟩ ⟨Nat.zero_le _, Nat.zero_le _⟩ (fun out hq => ?_)
                  obtain rfl := hq
                  refine Z_mem (show _ = eC (tW p.t j kk ll rr, p.2) rj s w g q q2 sm co from rfl) ?_
                  refine Z_iload 75 rfl rfl ?_
                  refine Z_iret 76 rfl rfl ⟨Nat.le_refl _, Nat.le_refl _⟩ ?_
                  first | (exfalso; omega) | exact ⟨by unfold putF; rw [← hkk, ← hll, ← hrr]; unfold putG; repeat (first | rw [cif_t (by first | assumption | omega)] | rw [cif_f (by first | assumption | omega)]), by unfold putF; rw [← hkk, ← hll, ← hrr]; unfold putG; (repeat (first | rw [cif_t (by first | assumption | omega)] | rw [cif_f (by first | assumption | omega)])) <;> rfl⟩
                · refine Z_sipush 60 rfl rfl ?_
                  refine Z_iret 61 rfl rfl ⟨Nat.le_refl _, Nat.le_refl _⟩ ?_
                  first | (exfalso; omega) | exact ⟨by unfold putF; rw [← hkk, ← hll, ← hrr]; unfold putG; repeat (first | rw [cif_t (by first | assumption | omega)] | rw [cif_f (by first | assumption | omega)]), by unfold putF; rw [← hkk, ← hll, ← hrr]; unfold putG; (repeat (first | rw [cif_t (by first | assumption | omega)] | rw [cif_f (by first | assumption | omega)])) <;> rfl⟩
              · refine Z_sipush 46 rfl rfl ?_
                refine Z_iret 47 rfl rfl ⟨Nat.le_refl _, Nat.le_refl _⟩ ?_
                first | (exfalso; omega) | exact ⟨by unfold putF; rw [← hkk, ← hll, ← hrr]; unfold putG; repeat (first | rw [cif_t (by first | assumption | omega)] | rw [cif_f (by first | assumption | omega)]), by unfold putF; rw [← hkk, ← hll, ← hrr]; unfold putG; (repeat (first | rw [cif_t (by first | assumption | omega)] | rw [cif_f (by first | assumption | omega)])) <;> rfl⟩
      · refine Z_sipush 10 rfl rfl ?_
        refine Z_iret 11 rfl rfl ⟨Nat.le_refl _, Nat.le_refl _⟩ ?_
        first | (exfalso; omega) | exact ⟨by unfold putF; rw [← hkk, ← hll, ← hrr]; unfold putG; repeat (first | rw [cif_t (by first | assumption | omega)] | rw [cif_f (by first | assumption | omega)]), by unfold putF; rw [← hkk, ← hll, ← hrr]; unfold putG; (repeat (first | rw [cif_t (by first | assumption | omega)] | rw [cif_f (by first | assumption | omega)])) <;> rfl⟩
theorem c_C_of (h : PV p) (j what : Int) (hj : inI j) (hw : inI what) : Con l M_C_of R_C_of 0 0 false [.ref 0, .int (iI j), .int (iI what)] (eC p rj s w g q q2 sm co) (zAi (ofF p.t j what) (fun m => m = eC p rj s w g q q2 sm co)) := by
  have h1 := h.1.1.1
  refine Con.of_Z (by decide) D_C_of (Nat.le_of_ble_eq_true rfl) ?_
  refine Z_aload_n 0 rfl rfl rfl ?_
  refine Z_get 1 rfl f_C_14 rfl rfl ?_
  refine Z_iload_n 2 rfl rfl rfl ?_
  refine Z_callVbp (M' := M_T_has) 3 [1, 2, 3, 4] rfl l_C_117 C_T_has (c_T_has l p.t h.1.1 j hj) ⟨by decide, (zEL.c (Or.inl rfl) (zEL.c (Or.inl rfl) (zEL.c (Or.inl rfl) (zEL.c (Or.inl rfl) zEL.n))))⟩ (Or.inl ⟨_, _, _, _, rfl, rfl⟩) rfl rfl rfl (Nat.le_of_ble_eq_true rfl) ⟨rfl, rfl, Nat.le_of_ble_eq_true rfl, Nat.le_of_ble_eq_true rfl⟩ ⟨Nat.zero_le _, Nat.zero_le _⟩ ?_
  refine Z_ifb_eq 4 rfl (tgt := 20) rfl (fun c8 => ?_) (fun c8 => ?_)
  · refine Z_sipush 10 rfl rfl ?_
    refine Z_iret 11 rfl rfl ⟨Nat.le_refl _, Nat.le_refl _⟩ ?_
    exact ⟨by unfold ofF; (repeat (first | rw [cif_t (by first | assumption | omega)] | rw [cif_f (by first | assumption | omega)])) <;> first | rfl | rw [if_pos (by omega)] <;> rfl | (rw [if_neg (by omega), if_pos (by omega)] <;> rfl) | (rw [if_neg (by omega), if_neg (by omega)]), rfl⟩
  · refine Z_iload_n 5 rfl rfl rfl ?_
    refine Z_if_lt 6 rfl (tgt := 20) rfl (by omega) (fun c12 => ?_) (fun c12 => ?_)
    · refine Z_sipush 10 rfl rfl ?_
      refine Z_iret 11 rfl rfl ⟨Nat.le_refl _, Nat.le_refl _⟩ ?_
      exact ⟨by unfold ofF; (repeat (first | rw [cif_t (by first | assumption | omega)] | rw [cif_f (by first | assumption | omega)])) <;> first | rfl | rw [if_pos (by omega)] <;> rfl | (rw [if_neg (by omega), if_pos (by omega)] <;> rfl) | (rw [if_neg (by omega), if_neg (by omega)]), rfl⟩
    · refine Z_iload_n 7 rfl rfl rfl ?_
      refine Z_iconst 8 rfl ?_
      refine Z_icmp_le 9 rfl (tgt := 24) rfl (by omega) (by omega) (fun c17 => ?_) (fun c17 => ?_)
      · refine Z_iload_n 12 rfl rfl rfl ?_
        refine Z_iconst 13 rfl ?_
        refine Z_icmp_ne 14 rfl (tgt := 38) rfl (by omega) (by omega) (fun c26 => ?_) (fun c26 => ?_)
        · refine Z_iload_n 20 rfl rfl rfl ?_
          refine Z_iconst 21 rfl ?_
          refine Z_icmp_ne 22 rfl (tgt := 52) rfl (by omega) (by omega) (fun c40 => ?_) (fun c40 => ?_)
          · refine Z_aload_n 28 rfl rfl rfl ?_
            refine Z_get 29 rfl f_C_14 rfl rfl ?_
            refine Z_iload_n 30 rfl rfl rfl ?_
            refine Z_iload_n 31 rfl rfl rfl ?_
            refine Z_callVip (M' := M_T_partOf) 32 [1, 2, 3, 4] rfl l_C_131 C_T_partOf (c_T_partOf l p.t j what (by omega) hw) ⟨by decide, (zEL.c (Or.inl rfl) (zEL.c (Or.inl rfl) (zEL.c (Or.inl rfl) (zEL.c (Or.inl rfl) zEL.n))))⟩ (Or.inl ⟨_, _, _, _, rfl, rfl⟩) rfl rfl rfl (Nat.le_of_ble_eq_true rfl) ⟨rfl, rfl, Nat.le_of_ble_eq_true rfl, Nat.le_of_ble_eq_true rfl⟩ ⟨Nat.zero_le _, Nat.zero_le _⟩ ?_
            refine Z_iret 33 rfl rfl ⟨Nat.le_refl _, Nat.le_refl _⟩ ?_
            exact ⟨by unfold ofF; (repeat (first | rw [cif_t (by first | assumption | omega)] | rw [cif_f (by first | assumption | omega)])) <;> first | rfl | rw [if_pos (by omega)] <;> rfl | (rw [if_neg (by omega), if_pos (by omega)] <;> rfl) | (rw [if_neg (by omega), if_neg (by omega)]), rfl⟩
          · refine Z_aload_n 23 rfl rfl rfl ?_
            refine Z_get 24 rfl f_C_14 rfl rfl ?_
            refine Z_iload_n 25 rfl rfl rfl ?_
            refine Z_callVip (M' := M_T_liftOf) 26 [1, 2, 3, 4] rfl l_C_142 C_T_liftOf (c_T_liftOf l p.t h.1.1 j j hj (by omega)) ⟨by decide, (zEL.c (Or.inl rfl) (zEL.c (Or.inl rfl) (zEL.c (Or.inl rfl) (zEL.c (Or.inl rfl) zEL.n))))⟩ (Or.inl ⟨_, _, _, _, rfl, rfl⟩) rfl rfl rfl (Nat.le_of_ble_eq_true rfl) ⟨rfl, rfl, Nat.le_of_ble_eq_true rfl, Nat.le_of_ble_eq_true rfl⟩ ⟨Nat.zero_le _, Nat.zero_le _⟩ ?_
            refine Z_iret 27 rfl rfl ⟨Nat.le_refl _, Nat.le_refl _⟩ ?_
            exact ⟨by unfold ofF; (repeat (first | rw [cif_t (by first | assumption | omega)] | rw [cif_f (by first | assumption | omega)])) <;> first | rfl | rw [if_pos (by omega)] <;> rfl | (rw [if_neg (by omega), if_pos (by omega)] <;> rfl) | (rw [if_neg (by omega), if_neg (by omega)]), rfl⟩
        · refine Z_aload_n 15 rfl rfl rfl ?_
          refine Z_get 16 rfl f_C_14 rfl rfl ?_
          refine Z_iload_n 17 rfl rfl rfl ?_
          refine Z_callVip (M' := M_T_beginOf) 18 [1, 2, 3, 4] rfl l_C_139 C_T_beginOf (c_T_beginOf l p.t h.1.1 j j hj (by omega)) ⟨by decide, (zEL.c (Or.inl rfl) (zEL.c (Or.inl rfl) (zEL.c (Or.inl rfl) (zEL.c (Or.inl rfl) zEL.n))))⟩ (Or.inl ⟨_, _, _, _, rfl, rfl⟩) rfl rfl rfl (Nat.le_of_ble_eq_true rfl) ⟨rfl, rfl, Nat.le_of_ble_eq_true rfl, Nat.le_of_ble_eq_true rfl⟩ ⟨Nat.zero_le _, Nat.zero_le _⟩ ?_
          refine Z_iret 19 rfl rfl ⟨Nat.le_refl _, Nat.le_refl _⟩ ?_
          exact ⟨by unfold ofF; (repeat (first | rw [cif_t (by first | assumption | omega)] | rw [cif_f (by first | assumption | omega)])) <;> first | rfl | rw [if_pos (by omega)] <;> rfl | (rw [if_neg (by omega), if_pos (by omega)] <;> rfl) | (rw [if_neg (by omega), if_neg (by omega)]), rfl⟩
      · refine Z_sipush 10 rfl rfl ?_
        refine Z_iret 11 rfl rfl ⟨Nat.le_refl _, Nat.le_refl _⟩ ?_
        exact ⟨by unfold ofF; (repeat (first | rw [cif_t (by first | assumption | omega)] | rw [cif_f (by first | assumption | omega)])) <;> first | rfl | rw [if_pos (by omega)] <;> rfl | (rw [if_neg (by omega), if_pos (by omega)] <;> rfl) | (rw [if_neg (by omega), if_neg (by omega)]), rfl⟩
theorem leF_in (i : Int) : 0 ≤ leF i ∧ leF i ≤ 1 := by
  unfold leF
  repeat' split
  all_goals omega
theorem moF_in (i : Int) : 20 ≤ moF i ∧ moF i ≤ 9999 := by
  unfold moF
  repeat' split
  all_goals omega
theorem c_C_tell (h : PV p) (what v : Int) (hw : inI what) (hv : inI v) : Con l M_C_tell R_C_tell 0 0 false [.ref 0, .int (iI what), .int (iI v)] (eC p rj s w g q q2 sm co) (zAi (tellF p.s what v).1 (fun m => m = eC (p.t, (tellF p.s what v).2, p.2.2) rj s w g q q2 sm co)) := by
  have h1 := leF_in what
  have h2 := moF_in what
  refine Con.of_Z (by decide) D_C_tell (Nat.le_of_ble_eq_true rfl) ?_
  refine Z_iload_n 0 rfl rfl rfl ?_
  refine Z_if_lt 1 rfl (tgt := 10) rfl (by omega) (fun c1 => ?_) (fun c1 => ?_)
  · refine Z_iconst 5 rfl ?_
    refine Z_iret 6 rfl rfl ⟨Nat.le_refl _, Nat.le_refl _⟩ ?_
    exact ⟨by unfold tellF; repeat (first | rw [cif_t (by first | assumption | omega)] | rw [cif_f (by first | assumption | omega)]), by unfold tellF; (repeat (first | rw [cif_t (by first | assumption | omega)] | rw [cif_f (by first | assumption | omega)])) <;> rfl⟩
  · refine Z_iload_n 2 rfl rfl rfl ?_
    refine Z_bipush 3 rfl rfl ?_
    refine Z_icmp_lt 4 rfl (tgt := 12) rfl (by omega) (by omega) (fun c7 => ?_) (fun c7 => ?_)
    · refine Z_iload_n 7 rfl rfl rfl ?_
      refine Z_gets (q := 27) 8 rfl f_C_145 rfl List.mem_cons_self ?_
      refine Z_iload_n 9 rfl rfl rfl ?_
      refine Z_callSip (M' := M_C_pick) 10 [28] rfl l_C_148 C_C_pick (pick_in l 6 (by omega) leF what (by omega)) ⟨by decide, (zEL.c (Or.inl rfl) zEL.n)⟩ rfl rfl rfl (Nat.le_of_ble_eq_true rfl) ⟨rfl, rfl, Nat.le_of_ble_eq_true rfl, Nat.le_of_ble_eq_true rfl⟩ ⟨Nat.zero_le _, Nat.zero_le _⟩ ?_
      refine Z_icmp_lt 11 rfl (tgt := 34) rfl (by omega) (by omega) (fun c20 => ?_) (fun c20 => ?_)
      · refine Z_bipush 17 rfl rfl ?_
        refine Z_iret 18 rfl rfl ⟨Nat.le_refl _, Nat.le_refl _⟩ ?_
        exact ⟨by unfold tellF; repeat (first | rw [cif_t (by first | assumption | omega)] | rw [cif_f (by first | assumption | omega)]), by unfold tellF; (repeat (first | rw [cif_t (by first | assumption | omega)] | rw [cif_f (by first | assumption | omega)])) <;> rfl⟩
      · refine Z_iload_n 12 rfl rfl rfl ?_
        refine Z_gets (q := 27) 13 rfl f_C_152 rfl (List.mem_cons_of_mem _ List.mem_cons_self) ?_
        refine Z_iload_n 14 rfl rfl rfl ?_
        refine Z_callSip (M' := M_C_pick) 15 [29] rfl l_C_148 C_C_pick (pick_in l 6 (by omega) moF what (by omega)) ⟨by decide, (zEL.c (Or.inl rfl) zEL.n)⟩ rfl rfl rfl (Nat.le_of_ble_eq_true rfl) ⟨rfl, rfl, Nat.le_of_ble_eq_true rfl, Nat.le_of_ble_eq_true rfl⟩ ⟨Nat.zero_le _, Nat.zero_le _⟩ ?_
        refine Z_icmp_le 16 rfl (tgt := 37) rfl (by omega) (by omega) (fun c31 => ?_) (fun c31 => ?_)
        · refine Z_aload_n 19 rfl rfl rfl ?_
          refine Z_get 20 rfl f_C_18 rfl rfl ?_
          refine Z_iload_n 21 rfl rfl rfl ?_
          refine Z_callSip (M' := M_C_pick) 22 [5] rfl l_C_148 C_C_pick (pick_in l 6 (by omega) p.s what (by omega)) ⟨by decide, (zEL.c (Or.inr ⟨_, _, rfl, rfl, by decide⟩) zEL.n)⟩ rfl rfl rfl (Nat.le_of_ble_eq_true rfl) ⟨rfl, rfl, Nat.le_of_ble_eq_true rfl, Nat.le_of_ble_eq_true rfl⟩ ⟨Nat.zero_le _, Nat.zero_le _⟩ ?_
          refine Z_istore_n 23 rfl rfl (Nat.le_of_ble_eq_true rfl) (lv' := [(3, .int _), (0, .ref _), (1, .int _), (2, .int _)]) rfl ?_
          refine Z_aload_n 24 rfl rfl rfl ?_
          refine Z_get 25 rfl f_C_18 rfl rfl ?_
          refine Z_iload_n 26 rfl rfl rfl ?_
          refine Z_iload_n 27 rfl rfl rfl ?_
          refine Z_callSv (M' := M_C_store) 28 [5] rfl l_C_155 C_C_store (c_C_store l 6 (by omega) p.s what v (by omega)) ⟨by decide, (zEL.c (Or.inl rfl) zEL.n)⟩ rfl rfl rfl (Nat.le_of_ble_eq_true rfl) ⟨rfl, rfl, Nat.le_of_ble_eq_true rfl, Nat.le_of_ble_eq_true rfl⟩ ⟨Nat.zero_le _, Nat.zero_le _⟩ (fun out hq => ?_)
          obtain rfl := hq
          refine Z_mem (show _ = eC (p.t, uI p.s what v, p.2.2) rj s w g q q2 sm co by rw [stI_in (by omega)]; rfl) ?_
          refine Z_iload_n 29 rfl rfl rfl ?_
          refine Z_iret 30 rfl rfl ⟨Nat.le_refl _, Nat.le_refl _⟩ ?_
          exact ⟨by unfold tellF; repeat (first | rw [cif_t (by first | assumption | omega)] | rw [cif_f (by first | assumption | omega)]), by unfold tellF; (repeat (first | rw [cif_t (by first | assumption | omega)] | rw [cif_f (by first | assumption | omega)])) <;> rfl⟩
        · refine Z_bipush 17 rfl rfl ?_
          refine Z_iret 18 rfl rfl ⟨Nat.le_refl _, Nat.le_refl _⟩ ?_
          exact ⟨by unfold tellF; repeat (first | rw [cif_t (by first | assumption | omega)] | rw [cif_f (by first | assumption | omega)]), by unfold tellF; (repeat (first | rw [cif_t (by first | assumption | omega)] | rw [cif_f (by first | assumption | omega)])) <;> rfl⟩
    · refine Z_iconst 5 rfl ?_
      refine Z_iret 6 rfl rfl ⟨Nat.le_refl _, Nat.le_refl _⟩ ?_
      exact ⟨by unfold tellF; repeat (first | rw [cif_t (by first | assumption | omega)] | rw [cif_f (by first | assumption | omega)]), by unfold tellF; (repeat (first | rw [cif_t (by first | assumption | omega)] | rw [cif_f (by first | assumption | omega)])) <;> rfl⟩
theorem c_C_told (h : PV p) (what : Int) (hw : inI what) : Con l M_C_told R_C_told 0 0 false [.ref 0, .int (iI what)] (eC p rj s w g q q2 sm co) (zAi (toldF p.t p.s p.ts what) (fun m => m = eC p rj s w g q q2 sm co)) := by
  refine Con.of_Z (by decide) D_C_told (Nat.le_of_ble_eq_true rfl) ?_
  refine Z_iload_n 0 rfl rfl rfl ?_
  refine Z_if_lt 1 rfl (tgt := 19) rfl (by omega) (fun c1 => ?_) (fun c1 => ?_)
  · refine Z_iload_n 10 rfl rfl rfl ?_
    rcases Classical.em (what < 6 ∨ 9 < what) with cs | cs
    · refine Z_tabOut 11 rfl hw cs (tgt := 92) rfl ?_
      refine Z_iconst 32 rfl ?_
      refine Z_iret 33 rfl rfl ⟨Nat.le_refl _, Nat.le_refl _⟩ ?_
      first | (exfalso; omega) | exact ⟨by unfold toldF; (repeat (first | rw [cif_t (by first | assumption | omega)] | rw [cif_f (by first | assumption | omega)])) <;> first | (subst cs; rfl) | (rw [if_neg (by omega), if_neg (by omega), if_neg (by omega), if_neg (by omega)]), rfl⟩
    rcases (show what = 6 ∨ what = 7 ∨ what = 8 ∨ what = 9 by omega) with cs | cs | cs | cs
    · refine Z_ci cs ?_
      refine Z_tabIn 11 rfl (by decide) (by decide) (by decide) (off := 32) rfl (tgt := 52) rfl ?_
      refine Z_aload_n 12 rfl rfl rfl ?_
      refine Z_get 13 rfl f_C_14 rfl rfl ?_
      refine Z_callVip (M' := M_T_size) 14 [1, 2, 3, 4] rfl l_C_111 C_T_size (c_T_size l p.t) ⟨by decide, (zEL.c (Or.inl rfl) (zEL.c (Or.inl rfl) (zEL.c (Or.inl rfl) (zEL.c (Or.inl rfl) zEL.n))))⟩ (Or.inl ⟨_, _, _, _, rfl, rfl⟩) rfl rfl rfl (Nat.le_of_ble_eq_true rfl) ⟨rfl, rfl, Nat.le_of_ble_eq_true rfl, Nat.le_of_ble_eq_true rfl⟩ ⟨Nat.zero_le _, Nat.zero_le _⟩ ?_
      refine Z_iret 15 rfl rfl ⟨Nat.le_refl _, Nat.le_refl _⟩ ?_
      first | (exfalso; omega) | exact ⟨by unfold toldF; (repeat (first | rw [cif_t (by first | assumption | omega)] | rw [cif_f (by first | assumption | omega)])) <;> first | (subst cs; rfl) | (rw [if_neg (by omega), if_neg (by omega), if_neg (by omega), if_neg (by omega)]), rfl⟩
    · refine Z_ci cs ?_
      refine Z_tabIn 11 rfl (by decide) (by decide) (by decide) (off := 40) rfl (tgt := 60) rfl ?_
      refine Z_aload_n 16 rfl rfl rfl ?_
      refine Z_get 17 rfl f_C_14 rfl rfl ?_
      refine Z_callVip (M' := M_T_total) 18 [1, 2, 3, 4] rfl l_C_103 C_T_total (c_T_total l p.t h.1.1) ⟨by decide, (zEL.c (Or.inl rfl) (zEL.c (Or.inl rfl) (zEL.c (Or.inl rfl) (zEL.c (Or.inl rfl) zEL.n))))⟩ (Or.inl ⟨_, _, _, _, rfl, rfl⟩) rfl rfl rfl (Nat.le_of_ble_eq_true rfl) ⟨rfl, rfl, Nat.le_of_ble_eq_true rfl, Nat.le_of_ble_eq_true rfl⟩ ⟨Nat.zero_le _, Nat.zero_le _⟩ ?_
      refine Z_iret 19 rfl rfl ⟨Nat.le_refl _, Nat.le_refl _⟩ ?_
      first | (exfalso; omega) | exact ⟨by unfold toldF; (repeat (first | rw [cif_t (by first | assumption | omega)] | rw [cif_f (by first | assumption | omega)])) <;> first | (subst cs; rfl) | (rw [if_neg (by omega), if_neg (by omega), if_neg (by omega), if_neg (by omega)]), rfl⟩
    · refine Z_ci cs ?_
      refine Z_tabIn 11 rfl (by decide) (by decide) (by decide) (off := 48) rfl (tgt := 68) rfl ?_
      refine Z_aload_n 20 rfl rfl rfl ?_
      refine Z_get 21 rfl f_C_14 rfl rfl ?_
      refine Z_callVbp (M' := M_T_isClosed) 22 [1, 2, 3, 4] rfl l_C_159 C_T_isClosed (c_T_isClosed l p.t h.1.1) ⟨by decide, (zEL.c (Or.inl rfl) (zEL.c (Or.inl rfl) (zEL.c (Or.inl rfl) (zEL.c (Or.inl rfl) zEL.n))))⟩ (Or.inl ⟨_, _, _, _, rfl, rfl⟩) rfl rfl rfl (Nat.le_of_ble_eq_true rfl) ⟨rfl, rfl, Nat.le_of_ble_eq_true rfl, Nat.le_of_ble_eq_true rfl⟩ ⟨Nat.zero_le _, Nat.zero_le _⟩ ?_
      refine Z_ifb_eq 23 rfl (tgt := 82) rfl (fun c75 => ?_) (fun c75 => ?_)
      · refine Z_iconst 26 rfl ?_
        refine Z_iret 27 rfl rfl ⟨Nat.le_refl _, Nat.le_refl _⟩ ?_
        first | (exfalso; omega) | exact ⟨by unfold toldF; rw [cif_f (by omega)]; subst cs; first | (show _ = some (Value.int (iI (bI (clo p.t)))); rw [bI_t c75]) | (show _ = some (Value.int (iI (bI (clo p.t)))); rw [bI_f c75]), rfl⟩
      · refine Z_iconst 24 rfl ?_
        refine Z_goto 25 rfl (tgt := 83) rfl ?_
        refine Z_iret 27 rfl rfl ⟨Nat.le_refl _, Nat.le_refl _⟩ ?_
        first | (exfalso; omega) | exact ⟨by unfold toldF; rw [cif_f (by omega)]; subst cs; first | (show _ = some (Value.int (iI (bI (clo p.t)))); rw [bI_t c75]) | (show _ = some (Value.int (iI (bI (clo p.t)))); rw [bI_f c75]), rfl⟩
    · refine Z_ci cs ?_
      refine Z_tabIn 11 rfl (by decide) (by decide) (by decide) (off := 64) rfl (tgt := 84) rfl ?_
      refine Z_aload_n 28 rfl rfl rfl ?_
      refine Z_get 29 rfl f_C_35 rfl rfl ?_
      refine Z_callVip (M' := M_D_size) 30 [11, 12, 13, 14, 15, 16] rfl l_C_162 C_D_size (c_D_size l p.tb p.ts rj) ⟨by decide, (zEL.c (Or.inl rfl) (zEL.c (Or.inl rfl) (zEL.c (Or.inl rfl) (zEL.c (Or.inl rfl) (zEL.c (Or.inl rfl) (zEL.c (Or.inl rfl) zEL.n))))))⟩ (Or.inl ⟨_, _, _, _, rfl, rfl⟩) rfl rfl rfl (Nat.le_of_ble_eq_true rfl) ⟨rfl, rfl, Nat.le_of_ble_eq_true rfl, Nat.le_of_ble_eq_true rfl⟩ ⟨Nat.zero_le _, Nat.zero_le _⟩ ?_
      refine Z_iret 31 rfl rfl ⟨Nat.le_refl _, Nat.le_refl _⟩ ?_
      first | (exfalso; omega) | exact ⟨by unfold toldF; (repeat (first | rw [cif_t (by first | assumption | omega)] | rw [cif_f (by first | assumption | omega)])) <;> first | (subst cs; rfl) | (rw [if_neg (by omega), if_neg (by omega), if_neg (by omega), if_neg (by omega)]), rfl⟩
  · refine Z_iload_n 2 rfl rfl rfl ?_
    refine Z_bipush 3 rfl rfl ?_
    refine Z_icmp_ge 4 rfl (tgt := 19) rfl (by omega) (by omega) (fun c7 => ?_) (fun c7 => ?_)
    · refine Z_iload_n 10 rfl rfl rfl ?_
      rcases Classical.em (what < 6 ∨ 9 < what) with cs | cs
      · refine Z_tabOut 11 rfl hw cs (tgt := 92) rfl ?_
        refine Z_iconst 32 rfl ?_
        refine Z_iret 33 rfl rfl ⟨Nat.le_refl _, Nat.le_refl _⟩ ?_
        first | (exfalso; omega) | exact ⟨by unfold toldF; (repeat (first | rw [cif_t (by first | assumption | omega)] | rw [cif_f (by first | assumption | omega)])) <;> first | (subst cs; rfl) | (rw [if_neg (by omega), if_neg (by omega), if_neg (by omega), if_neg (by omega)]), rfl⟩
      rcases (show what = 6 ∨ what = 7 ∨ what = 8 ∨ what = 9 by omega) with cs | cs | cs | cs
      · refine Z_ci cs ?_
        refine Z_tabIn 11 rfl (by decide) (by decide) (by decide) (off := 32) rfl (tgt := 52) rfl ?_
        refine Z_aload_n 12 rfl rfl rfl ?_
        refine Z_get 13 rfl f_C_14 rfl rfl ?_
        refine Z_callVip (M' := M_T_size) 14 [1, 2, 3, 4] rfl l_C_111 C_T_size (c_T_size l p.t) ⟨by decide, (zEL.c (Or.inl rfl) (zEL.c (Or.inl rfl) (zEL.c (Or.inl rfl) (zEL.c (Or.inl rfl) zEL.n))))⟩ (Or.inl ⟨_, _, _, _, rfl, rfl⟩) rfl rfl rfl (Nat.le_of_ble_eq_true rfl) ⟨rfl, rfl, Nat.le_of_ble_eq_true rfl, Nat.le_of_ble_eq_true rfl⟩ ⟨Nat.zero_le _, Nat.zero_le _⟩ ?_
        refine Z_iret 15 rfl rfl ⟨Nat.le_refl _, Nat.le_refl _⟩ ?_
        first | (exfalso; omega) | exact ⟨by unfold toldF; (repeat (first | rw [cif_t (by first | assumption | omega)] | rw [cif_f (by first | assumption | omega)])) <;> first | (subst cs; rfl) | (rw [if_neg (by omega), if_neg (by omega), if_neg (by omega), if_neg (by omega)]), rfl⟩
      · refine Z_ci cs ?_
        refine Z_tabIn 11 rfl (by decide) (by decide) (by decide) (off := 40) rfl (tgt := 60) rfl ?_
        refine Z_aload_n 16 rfl rfl rfl ?_
        refine Z_get 17 rfl f_C_14 rfl rfl ?_
        refine Z_callVip (M' := M_T_total) 18 [1, 2, 3, 4] rfl l_C_103 C_T_total (c_T_total l p.t h.1.1) ⟨by decide, (zEL.c (Or.inl rfl) (zEL.c (Or.inl rfl) (zEL.c (Or.inl rfl) (zEL.c (Or.inl rfl) zEL.n))))⟩ (Or.inl ⟨_, _, _, _, rfl, rfl⟩) rfl rfl rfl (Nat.le_of_ble_eq_true rfl) ⟨rfl, rfl, Nat.le_of_ble_eq_true rfl, Nat.le_of_ble_eq_true rfl⟩ ⟨Nat.zero_le _, Nat.zero_le _⟩ ?_
        refine Z_iret 19 rfl rfl ⟨Nat.le_refl _, Nat.le_refl _⟩ ?_
        first | (exfalso; omega) | exact ⟨by unfold toldF; (repeat (first | rw [cif_t (by first | assumption | omega)] | rw [cif_f (by first | assumption | omega)])) <;> first | (subst cs; rfl) | (rw [if_neg (by omega), if_neg (by omega), if_neg (by omega), if_neg (by omega)]), rfl⟩
      · refine Z_ci cs ?_
        refine Z_tabIn 11 rfl (by decide) (by decide) (by decide) (off := 48) rfl (tgt := 68) rfl ?_
        refine Z_aload_n 20 rfl rfl rfl ?_
        refine Z_get 21 rfl f_C_14 rfl rfl ?_
        refine Z_callVbp (M' := M_T_isClosed) 22 [1, 2, 3, 4] rfl l_C_159 C_T_isClosed (c_T_isClosed l p.t h.1.1) ⟨by decide, (zEL.c (Or.inl rfl) (zEL.c (Or.inl rfl) (zEL.c (Or.inl rfl) (zEL.c (Or.inl rfl) zEL.n))))⟩ (Or.inl ⟨_, _, _, _, rfl, rfl⟩) rfl rfl rfl (Nat.le_of_ble_eq_true rfl) ⟨rfl, rfl, Nat.le_of_ble_eq_true rfl, Nat.le_of_ble_eq_true rfl⟩ ⟨Nat.zero_le _, Nat.zero_le _⟩ ?_
        refine Z_ifb_eq 23 rfl (tgt := 82) rfl (fun c75 => ?_) (fun c75 => ?_)
        · refine Z_iconst 26 rfl ?_
          refine Z_iret 27 rfl rfl ⟨Nat.le_refl _, Nat.le_refl _⟩ ?_
          first | (exfalso; omega) | exact ⟨by unfold toldF; rw [cif_f (by omega)]; subst cs; first | (show _ = some (Value.int (iI (bI (clo p.t)))); rw [bI_t c75]) | (show _ = some (Value.int (iI (bI (clo p.t)))); rw [bI_f c75]), rfl⟩
        · refine Z_iconst 24 rfl ?_
          refine Z_goto 25 rfl (tgt := 83) rfl ?_
          refine Z_iret 27 rfl rfl ⟨Nat.le_refl _, Nat.le_refl _⟩ ?_
          first | (exfalso; omega) | exact ⟨by unfold toldF; rw [cif_f (by omega)]; subst cs; first | (show _ = some (Value.int (iI (bI (clo p.t)))); rw [bI_t c75]) | (show _ = some (Value.int (iI (bI (clo p.t)))); rw [bI_f c75]), rfl⟩
      · refine Z_ci cs ?_
        refine Z_tabIn 11 rfl (by decide) (by decide) (by decide) (off := 64) rfl (tgt := 84) rfl ?_
        refine Z_aload_n 28 rfl rfl rfl ?_
        refine Z_get 29 rfl f_C_35 rfl rfl ?_
        refine Z_callVip (M' := M_D_size) 30 [11, 12, 13, 14, 15, 16] rfl l_C_162 C_D_size (c_D_size l p.tb p.ts rj) ⟨by decide, (zEL.c (Or.inl rfl) (zEL.c (Or.inl rfl) (zEL.c (Or.inl rfl) (zEL.c (Or.inl rfl) (zEL.c (Or.inl rfl) (zEL.c (Or.inl rfl) zEL.n))))))⟩ (Or.inl ⟨_, _, _, _, rfl, rfl⟩) rfl rfl rfl (Nat.le_of_ble_eq_true rfl) ⟨rfl, rfl, Nat.le_of_ble_eq_true rfl, Nat.le_of_ble_eq_true rfl⟩ ⟨Nat.zero_le _, Nat.zero_le _⟩ ?_
        refine Z_iret 31 rfl rfl ⟨Nat.le_refl _, Nat.le_refl _⟩ ?_
        first | (exfalso; omega) | exact ⟨by unfold toldF; (repeat (first | rw [cif_t (by first | assumption | omega)] | rw [cif_f (by first | assumption | omega)])) <;> first | (subst cs; rfl) | (rw [if_neg (by omega), if_neg (by omega), if_neg (by omega), if_neg (by omega)]), rfl⟩
    · refine Z_aload_n 5 rfl rfl rfl ?_
      refine Z_get 6 rfl f_C_18 rfl rfl ?_
      refine Z_iload_n 7 rfl rfl rfl ?_
      refine Z_callSip (M' := M_C_pick) 8 [5] rfl l_C_148 C_C_pick (pick_in l 6 (by omega) p.s what (by omega)) ⟨by decide, (zEL.c (Or.inr ⟨_, _, rfl, rfl, by decide⟩) zEL.n)⟩ rfl rfl rfl (Nat.le_of_ble_eq_true rfl) ⟨rfl, rfl, Nat.le_of_ble_eq_true rfl, Nat.le_of_ble_eq_true rfl⟩ ⟨Nat.zero_le _, Nat.zero_le _⟩ ?_
      refine Z_iret 9 rfl rfl ⟨Nat.le_refl _, Nat.le_refl _⟩ ?_
      first | (exfalso; omega) | exact ⟨by unfold toldF; (repeat (first | rw [cif_t (by first | assumption | omega)] | rw [cif_f (by first | assumption | omega)])) <;> first | (subst cs; rfl) | (rw [if_neg (by omega), if_neg (by omega), if_neg (by omega), if_neg (by omega)]), rfl⟩
end C2
