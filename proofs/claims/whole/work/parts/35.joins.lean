/-! CamPieces: joins -/
theorem end_lo {k L r a u : Int} (what : Int) (hk : 0 ≤ k ∧ k ≤ 5) (hL : 1 ≤ L ∧ L ≤ 360) (hr : -99 ≤ r ∧ r ≤ 99) (hu : u = 0 ∨ u = L) : (-594 ≤ lo (sbf what (sd k L r a u)) (sd k L r a u).1 0 ∧ lo (sbf what (sd k L r a u)) (sd k L r a u).1 0 ≤ 594) ∧ (0 < lo (sbf what (sd k L r a u)) (sd k L r a u).1 1 ∧ lo (sbf what (sd k L r a u)) (sd k L r a u).1 1 ≤ 129600) := by
  have hp := pos_L hL.1
  have hLL := mul_bd (x := L) (y := L) (A := 360) (B := 360) (by omega) (by omega)
  have key : ∀ {x y : Int} (m a' b' : Int), 1 ≤ m → 1 ≤ b' → b' ≤ 129600 → -594 ≤ a' → a' ≤ 594 → x = m * a' → y = m * b' → (-594 ≤ lo x y 0 ∧ lo x y 0 ≤ 594) ∧ (0 < lo x y 1 ∧ lo x y 1 ≤ 129600) := by
    intro x y m a' b' h1 h2 h3 h4 h5 h6 h7
    rw [h6, h7, lo_mul a' b' 0 (show 0 < m by omega), lo_mul a' b' 1 (show 0 < m by omega)]
    exact lo_bd a' b' 0 (by omega) ⟨h4, h5⟩ h3
  refine kd_cases (P := fun k => (-594 ≤ lo (sbf what (sd k L r a u)) (sd k L r a u).1 0 ∧ lo (sbf what (sd k L r a u)) (sd k L r a u).1 0 ≤ 594) ∧ (0 < lo (sbf what (sd k L r a u)) (sd k L r a u).1 1 ∧ lo (sbf what (sd k L r a u)) (sd k L r a u).1 1 ≤ 129600)) hk ?_ ?_ ?_ ?_ ?_ ?_
  · refine key 1 0 1 (by omega) (by omega) (by omega) (by omega) (by omega) ?_ rfl
    unfold sbf
    split <;> rfl
  · by_cases hw : what = 1
    · exact key 1 r L (by omega) (by omega) (by omega) (by omega) (by omega) (by unfold sbf; rw [if_pos hw]; show r = 1 * r; omega) (by show L = 1 * L; omega)
    · exact key L 0 1 (by omega) (by omega) (by omega) (by omega) (by omega) (by unfold sbf; rw [if_neg hw]; show (0 : Int) = L * 0; omega) (by show L = L * 1; omega)
  · by_cases hw : what = 1
    · rcases hu with e | e
      · exact key (L * L) 0 1 (by omega) (by omega) (by omega) (by omega) (by omega) (by unfold sbf; rw [if_pos hw]; show 2 * r * u = L * L * 0; rw [e]; omega) (by show L * L = L * L * 1; omega)
      · exact key L (2 * r) L (by omega) (by omega) (by omega) (by omega) (by omega) (by unfold sbf; rw [if_pos hw]; show 2 * r * u = L * (2 * r); rw [e]; grind) rfl
    · exact key 1 (2 * r) (L * L) (by omega) (by omega) (by omega) (by omega) (by omega) (by unfold sbf; rw [if_neg hw]; show 2 * r = 1 * (2 * r); omega) (by show L * L = 1 * (L * L); omega)
  · by_cases hw : what = 1
    · rcases hu with e | e
      · exact key L (2 * r) L (by omega) (by omega) (by omega) (by omega) (by omega) (by unfold sbf; rw [if_pos hw]; show 2 * r * (L - u) = L * (2 * r); rw [e]; grind) rfl
      · exact key (L * L) 0 1 (by omega) (by omega) (by omega) (by omega) (by omega) (by unfold sbf; rw [if_pos hw]; show 2 * r * (L - u) = L * L * 0; rw [e]; grind) (by show L * L = L * L * 1; omega)
    · exact key 1 (-2 * r) (L * L) (by omega) (by omega) (by omega) (by omega) (by omega) (by unfold sbf; rw [if_neg hw]; show -2 * r = 1 * (-2 * r); omega) (by show L * L = 1 * (L * L); omega)
  · by_cases hw : what = 1
    · exact key (L * L * L) 0 1 (by omega) (by omega) (by omega) (by omega) (by omega) (by unfold sbf; rw [if_pos hw]; show 6 * r * u * (L - u) = L * L * L * 0; rcases hu with e | e <;> rw [e] <;> grind) (by show L * L * L = L * L * L * 1; omega)
    · rcases hu with e | e
      · exact key L (6 * r) (L * L) (by omega) (by omega) (by omega) (by omega) (by omega) (by unfold sbf; rw [if_neg hw]; show 6 * r * (L - 2 * u) = L * (6 * r); rw [e]; grind) (by show L * L * L = L * (L * L); grind)
      · exact key L (-6 * r) (L * L) (by omega) (by omega) (by omega) (by omega) (by omega) (by unfold sbf; rw [if_neg hw]; show 6 * r * (L - 2 * u) = L * (-6 * r); rw [e]; grind) (by show L * L * L = L * (L * L); grind)
  · have e5 : L * L * (L * L) * L = L * L * L * L * L := by grind
    refine key (L * L * (L * L) * L) 0 1 (by omega) (by omega) (by omega) (by omega) (by omega) ?_ (by show L * L * (L * L) * L = L * L * (L * L) * L * 1; omega)
    unfold sbf
    split
    · show 30 * r * u * u * (L - u) * (L - u) = L * L * (L * L) * L * 0
      rcases hu with e | e <;> rw [e] <;> grind
    · show 60 * r * u * (L - u) * (L - u - u) = L * L * (L * L) * L * 0
      rcases hu with e | e <;> rw [e] <;> grind
theorem hj_in {t : TT} (h : TV t) {j : Int} (hh : hj t j) : (0 ≤ j ∧ j < t.2.2.2) ∧ (0 ≤ pa t j ∧ pa t j < t.2.2.2) := by
  unfold hj at hh
  unfold pa
  rcases hh with ⟨h1, h2⟩ | h1
  · have := clo_n h h2
    rw [if_pos h1]
    omega
  · rw [if_neg h1.1]
    omega
theorem jp_lo {t : TT} (h : TV t) {j : Int} (what : Int) (hh : hj t j) : ((-594 ≤ lo (sbf what (pl t j 0)) (pl t j 0).1 0 ∧ lo (sbf what (pl t j 0)) (pl t j 0).1 0 ≤ 594) ∧ (0 < lo (sbf what (pl t j 0)) (pl t j 0).1 1 ∧ lo (sbf what (pl t j 0)) (pl t j 0).1 1 ≤ 129600)) ∧ ((-594 ≤ lo (sbf what (pl t (pa t j) (t.2.1 (pa t j)))) (pl t (pa t j) (t.2.1 (pa t j))).1 0 ∧ lo (sbf what (pl t (pa t j) (t.2.1 (pa t j)))) (pl t (pa t j) (t.2.1 (pa t j))).1 0 ≤ 594) ∧ (0 < lo (sbf what (pl t (pa t j) (t.2.1 (pa t j)))) (pl t (pa t j) (t.2.1 (pa t j))).1 1 ∧ lo (sbf what (pl t (pa t j) (t.2.1 (pa t j)))) (pl t (pa t j) (t.2.1 (pa t j))).1 1 ≤ 129600)) := by
  obtain ⟨h1, h2⟩ := hj_in h hh
  have m1 := h.2.2 j h1.1 h1.2
  have m2 := h.2.2 (pa t j) h2.1 h2.2
  unfold mb at m1 m2
  exact ⟨end_lo what m1.1 m1.2.1 m1.2.2.1 (Or.inl rfl), end_lo what m2.1 m2.2.1 m2.2.2.1 (Or.inr rfl)⟩
theorem jp_bd {t : TT} (h : TV t) {j : Int} (what : Int) (hh : hj t j) : (-200000000 ≤ jpa t j what ∧ jpa t j what ≤ 200000000) ∧ (0 < jpb t j what ∧ jpb t j what ≤ 16796160000) := by
  obtain ⟨⟨a1, a2⟩, ⟨a3, a4⟩⟩ := jp_lo h what hh
  have m1 := mul_ab (B := 129600) a1 (y := lo (sbf what (pl t (pa t j) (t.2.1 (pa t j)))) (pl t (pa t j) (t.2.1 (pa t j))).1 1) (by omega)
  have m2 := mul_ab (B := 129600) a3 (y := lo (sbf what (pl t j 0)) (pl t j 0).1 1) (by omega)
  have m3 := mul_bd (A := 129600) (B := 129600) (x := lo (sbf what (pl t j 0)) (pl t j 0).1 1) (y := lo (sbf what (pl t (pa t j) (t.2.1 (pa t j)))) (pl t (pa t j) (t.2.1 (pa t j))).1 1) (by omega) (by omega)
  have m4 := Int.mul_pos a2.1 a4.1
  unfold jpa jpb
  omega
theorem jl_bd {t : TT} (h : TV t) {j : Int} (what : Int) (hh : hj t j) : (-200000000 ≤ lo (jpa t j what) (jpb t j what) 0 ∧ lo (jpa t j what) (jpb t j what) 0 ≤ 200000000) ∧ (0 < lo (jpa t j what) (jpb t j what) 1 ∧ lo (jpa t j what) (jpb t j what) 1 ≤ 16796160000) := by
  have hb := jp_bd h what hh
  exact lo_bd _ _ 0 hb.2.1 hb.1 hb.2.2
section C7
variable (l : Launch) (p : PS) (rj : RJ) (s : SS) (w : WW) (g : RR) (q q2 : Int × Int) (sm co : Int → Int)
theorem c_C_hasJoin (h : PV p) (j : Int) (hi : inI j) : Con l M_C_hasJoin R_C_hasJoin 0 0 false [.ref 0, .int (iI j)] (eC p rj s w g q q2 sm co) (zAb (hj p.t j) (fun m => m = eC p rj s w g q q2 sm co)) := by
  refine Con.of_Z (by decide) D_C_hasJoin (Nat.le_of_ble_eq_true rfl) ?_
  refine Z_iload_n 0 rfl rfl rfl ?_
  refine Z_if_ne 1 rfl (tgt := 14) rfl (by omega) (fun c1 => ?_) (fun c1 => ?_)
  · refine Z_aload_n 6 rfl rfl rfl ?_
    refine Z_get 7 rfl f_C_14 rfl rfl ?_
    refine Z_iload_n 8 rfl rfl rfl ?_
    refine Z_callVbp (M' := M_T_has) 9 [1, 2, 3, 4] rfl l_C_117 C_T_has (c_T_has l p.t h.1.1 j hi) ⟨by decide, (zEL.c (Or.inl rfl) (zEL.c (Or.inl rfl) (zEL.c (Or.inl rfl) (zEL.c (Or.inl rfl) zEL.n))))⟩ (Or.inl ⟨_, _, _, _, rfl, rfl⟩) rfl rfl rfl (Nat.le_of_ble_eq_true rfl) ⟨rfl, rfl, Nat.le_of_ble_eq_true rfl, Nat.le_of_ble_eq_true rfl⟩ ⟨Nat.zero_le _, Nat.zero_le _⟩ ?_
    refine Z_zret 10 rfl rfl (bI_nar _) ⟨Nat.le_refl _, Nat.le_refl _⟩ ?_
    exact ⟨by first | rw [bI_c (show clo p.t ↔ hj p.t j from ⟨fun z => Or.inl ⟨c1, z⟩, fun z => z.elim And.right (fun z => absurd c1 z.1)⟩)] | rw [bI_c (show (0 ≤ j ∧ j < p.t.2.2.2) ↔ hj p.t j from ⟨fun z => Or.inr ⟨c1, z⟩, fun z => z.elim (fun z => absurd z.1 c1) And.right⟩)], rfl⟩
  · refine Z_aload_n 2 rfl rfl rfl ?_
    refine Z_get 3 rfl f_C_14 rfl rfl ?_
    refine Z_callVbp (M' := M_T_isClosed) 4 [1, 2, 3, 4] rfl l_C_159 C_T_isClosed (c_T_isClosed l p.t h.1.1) ⟨by decide, (zEL.c (Or.inl rfl) (zEL.c (Or.inl rfl) (zEL.c (Or.inl rfl) (zEL.c (Or.inl rfl) zEL.n))))⟩ (Or.inl ⟨_, _, _, _, rfl, rfl⟩) rfl rfl rfl (Nat.le_of_ble_eq_true rfl) ⟨rfl, rfl, Nat.le_of_ble_eq_true rfl, Nat.le_of_ble_eq_true rfl⟩ ⟨Nat.zero_le _, Nat.zero_le _⟩ ?_
    refine Z_goto 5 rfl (tgt := 22) rfl ?_
    refine Z_zret 10 rfl rfl (bI_nar _) ⟨Nat.le_refl _, Nat.le_refl _⟩ ?_
    exact ⟨by first | rw [bI_c (show clo p.t ↔ hj p.t j from ⟨fun z => Or.inl ⟨c1, z⟩, fun z => z.elim And.right (fun z => absurd c1 z.1)⟩)] | rw [bI_c (show (0 ≤ j ∧ j < p.t.2.2.2) ↔ hj p.t j from ⟨fun z => Or.inr ⟨c1, z⟩, fun z => z.elim (fun z => absurd z.1 c1) And.right⟩)], rfl⟩
theorem c_C_pieceAhead (h : PV p) (j : Int) (hi : inI j) : Con l M_C_pieceAhead R_C_pieceAhead 0 0 false [.ref 0, .int (iI j)] (eC p rj s w g q q2 sm co) (zAi (pa p.t j) (fun m => m = eC p rj s w g q q2 sm co)) := by
  refine Con.of_Z (by decide) D_C_pieceAhead (Nat.le_of_ble_eq_true rfl) ?_
  refine Z_iload_n 0 rfl rfl rfl ?_
  refine Z_if_ne 1 rfl (tgt := 16) rfl (by omega) (fun c1 => ?_) (fun c1 => ?_)
  · refine Z_iload_n 8 rfl rfl rfl ?_
    refine Z_iconst 9 rfl ?_
    refine Z_isub 10 rfl ?_
    refine Z_iret 11 rfl rfl ⟨Nat.le_refl _, Nat.le_refl _⟩ ?_
    exact ⟨by unfold pa; first | rw [if_pos c1] | rw [if_neg c1], rfl⟩
  · refine Z_aload_n 2 rfl rfl rfl ?_
    refine Z_get 3 rfl f_C_14 rfl rfl ?_
    refine Z_callVip (M' := M_T_size) 4 [1, 2, 3, 4] rfl l_C_111 C_T_size (c_T_size l p.t) ⟨by decide, (zEL.c (Or.inl rfl) (zEL.c (Or.inl rfl) (zEL.c (Or.inl rfl) (zEL.c (Or.inl rfl) zEL.n))))⟩ (Or.inl ⟨_, _, _, _, rfl, rfl⟩) rfl rfl rfl (Nat.le_of_ble_eq_true rfl) ⟨rfl, rfl, Nat.le_of_ble_eq_true rfl, Nat.le_of_ble_eq_true rfl⟩ ⟨Nat.zero_le _, Nat.zero_le _⟩ ?_
    refine Z_iconst 5 rfl ?_
    refine Z_isub 6 rfl ?_
    refine Z_goto 7 rfl (tgt := 19) rfl ?_
    refine Z_iret 11 rfl rfl ⟨Nat.le_refl _, Nat.le_refl _⟩ ?_
    exact ⟨by unfold pa; first | rw [if_pos c1] | rw [if_neg c1], rfl⟩
theorem c_C_reckonJump (h : PV p) (j what : Int) (hh : hj p.t j) (hw : what = 1 ∨ what = 2) : Con l M_C_reckonJump R_C_reckonJump 0 0 false [.ref 0, .int (iI j), .int (iI what)] (eC p rj s w g q q2 sm co) (zAv (fun m => m = eC p rj (pl p.t j 0) w g (lo (jpa p.t j what) (jpb p.t j what) 0, lo (jpa p.t j what) (jpb p.t j what) 1) (lo (sbf what (pl p.t (pa p.t j) (p.t.2.1 (pa p.t j)))) (pl p.t (pa p.t j) (p.t.2.1 (pa p.t j))).1 0, lo (sbf what (pl p.t (pa p.t j) (p.t.2.1 (pa p.t j)))) (pl p.t (pa p.t j) (p.t.2.1 (pa p.t j))).1 1) sm co)) := by
  have h1 := h.1.1.1
  obtain ⟨hj1, hj2⟩ := hj_in h.1 hh
  have hl1 := TV_L h.1 hj1.1 hj1.2
  have hl2 := TV_L h.1 hj2.1 hj2.2
  have b1 := pl_bd h.1 hj1 (show 0 ≤ (0 : Int) ∧ 0 ≤ p.t.2.1 j by omega)
  have b2 := pl_bd h.1 hj2 (show 0 ≤ p.t.2.1 (pa p.t j) ∧ p.t.2.1 (pa p.t j) ≤ p.t.2.1 (pa p.t j) by omega)
  have b3 := jp_bd h.1 what hh
  unfold SBd at b1 b2
  have f1 : inL (sbf what (pl p.t j 0)) ∧ sbf what (pl p.t j 0) ≠ -9223372036854775808 := by unfold sbf; split <;> omega
  have f2 : inL (sbf what (pl p.t (pa p.t j) (p.t.2.1 (pa p.t j)))) ∧ sbf what (pl p.t (pa p.t j) (p.t.2.1 (pa p.t j))) ≠ -9223372036854775808 := by unfold sbf; split <;> omega
  refine Con.of_Z (by decide) D_C_reckonJump (Nat.le_of_ble_eq_true rfl) ?_
  refine Z_aload_n 0 rfl rfl rfl ?_
  refine Z_iload_n 1 rfl rfl rfl ?_
  refine Z_callVip (M' := M_C_pieceAhead) 2 isC rfl l_C_369 C_C_pieceAhead (c_C_pieceAhead l p rj s w g q q2 sm co h j (by omega)) (emC ..) (Or.inl ⟨_, _, _, _, rfl, rfl⟩) rfl rfl rfl (Nat.le_of_ble_eq_true rfl) ⟨rfl, rfl, Nat.le_of_ble_eq_true rfl, Nat.le_of_ble_eq_true rfl⟩ ⟨Nat.zero_le _, Nat.zero_le _⟩ ?_
  refine Z_istore_n 3 rfl rfl (Nat.le_of_ble_eq_true rfl) (lv' := [(3, .int _), (0, .ref _), (1, .int _), (2, .int _)]) rfl ?_
  refine Z_aload_n 4 rfl rfl rfl ?_
  refine Z_iload_n 5 rfl rfl rfl ?_
  refine Z_aload_n 6 rfl rfl rfl ?_
  refine Z_get 7 rfl f_C_14 rfl rfl ?_
  refine Z_iload_n 8 rfl rfl rfl ?_
  refine Z_callVip (M' := M_T_longOf) 9 [1, 2, 3, 4] rfl l_C_125 C_T_longOf (c_T_longOf l p.t (pa p.t j) (by omega)) ⟨by decide, (zEL.c (Or.inl rfl) (zEL.c (Or.inl rfl) (zEL.c (Or.inl rfl) (zEL.c (Or.inl rfl) zEL.n))))⟩ (Or.inl ⟨_, _, _, _, rfl, rfl⟩) rfl rfl rfl (Nat.le_of_ble_eq_true rfl) ⟨rfl, rfl, Nat.le_of_ble_eq_true rfl, Nat.le_of_ble_eq_true rfl⟩ ⟨Nat.zero_le _, Nat.zero_le _⟩ ?_
  refine Z_callVb (M' := M_C_standIn) 10 isC rfl l_C_362 C_C_standIn (c_C_standIn l p rj s w g q q2 sm co h (pa p.t j) (p.t.2.1 (pa p.t j)) hj2 (by omega)) (emC ..) (Or.inl ⟨_, _, _, _, rfl, rfl⟩) rfl rfl rfl (Nat.le_of_ble_eq_true rfl) ⟨rfl, rfl, Nat.le_of_ble_eq_true rfl, Nat.le_of_ble_eq_true rfl⟩ ⟨Nat.zero_le _, Nat.zero_le _⟩ (fun out hq => ?_)
  obtain rfl := hq
  refine Z_mem (mgC ..) ?_
  refine Z_pop 11 rfl rfl ?_
  refine Z_aload_n 12 rfl rfl rfl ?_
  refine Z_get 13 rfl f_C_78 rfl rfl ?_
  refine Z_iload_n 14 rfl rfl rfl ?_
  refine Z_iconst 15 rfl ?_
  refine Z_icmp_ne 16 rfl (tgt := 39) rfl (by omega) (by omega) (fun c26 => ?_) (fun c26 => ?_)
  · refine Z_aload_n 21 rfl rfl rfl ?_
    refine Z_get 22 rfl f_C_53 rfl rfl ?_
    refine Z_getN 23 rfl f_C_192 rfl rfl ?_
    refine Z_cl (show _ = sbf what (pl p.t (pa p.t j) (p.t.2.1 (pa p.t j))) by unfold sbf; first | (exfalso; omega) | rw [if_pos (by omega)] | rw [if_neg (by omega)]) ?_
    refine Z_aload_n 24 rfl rfl rfl ?_
    refine Z_get 25 rfl f_C_53 rfl rfl ?_
    refine Z_getN 26 rfl f_C_195 rfl rfl ?_
    refine Z_callVv (M' := M_Q_become) 27 [24] rfl l_C_260 C_Q_become (c_Q_become l q2.1 q2.2 (sbf what (pl p.t (pa p.t j) (p.t.2.1 (pa p.t j)))) (pl p.t (pa p.t j) (p.t.2.1 (pa p.t j))).1) ⟨by decide, (zEL.c (Or.inl rfl) zEL.n)⟩ (Or.inl ⟨_, _, _, _, rfl, rfl⟩) rfl rfl rfl (Nat.le_of_ble_eq_true rfl) ⟨rfl, rfl, Nat.le_of_ble_eq_true rfl, Nat.le_of_ble_eq_true rfl⟩ ⟨Nat.zero_le _, Nat.zero_le _⟩ (fun out hq => ?_)
    obtain rfl := hq
    refine Z_mem (show _ = eC p rj (pl p.t (pa p.t j) (p.t.2.1 (pa p.t j))) w g q (sbf what (pl p.t (pa p.t j) (p.t.2.1 (pa p.t j))), (pl p.t (pa p.t j) (p.t.2.1 (pa p.t j))).1) sm co from rfl) ?_
    refine Z_aload_n 28 rfl rfl rfl ?_
    refine Z_get 29 rfl f_C_78 rfl rfl ?_
    refine Z_callVv (M' := M_Q_lower) 30 [24] rfl l_C_372 C_Q_lower (c_Q_lower l (sbf what (pl p.t (pa p.t j) (p.t.2.1 (pa p.t j)))) (pl p.t (pa p.t j) (p.t.2.1 (pa p.t j))).1 f2 (by omega)) ⟨by decide, (zEL.c (Or.inl rfl) zEL.n)⟩ (Or.inl ⟨_, _, _, _, rfl, rfl⟩) rfl rfl rfl (Nat.le_of_ble_eq_true rfl) ⟨rfl, rfl, Nat.le_of_ble_eq_true rfl, Nat.le_of_ble_eq_true rfl⟩ ⟨Nat.zero_le _, Nat.zero_le _⟩ (fun out hq => ?_)
    obtain rfl := hq
    refine Z_mem (show _ = eC p rj (pl p.t (pa p.t j) (p.t.2.1 (pa p.t j))) w g q (lo (sbf what (pl p.t (pa p.t j) (p.t.2.1 (pa p.t j)))) (pl p.t (pa p.t j) (p.t.2.1 (pa p.t j))).1 0, lo (sbf what (pl p.t (pa p.t j) (p.t.2.1 (pa p.t j)))) (pl p.t (pa p.t j) (p.t.2.1 (pa p.t j))).1 1) sm co from rfl) ?_
    refine Z_aload_n 31 rfl rfl rfl ?_
    refine Z_iload_n 32 rfl rfl rfl ?_
    refine Z_iconst 33 rfl ?_
    refine Z_callVb (M' := M_C_standIn) 34 isC rfl l_C_362 C_C_standIn (c_C_standIn l p rj (pl p.t (pa p.t j) (p.t.2.1 (pa p.t j))) w g q (lo (sbf what (pl p.t (pa p.t j) (p.t.2.1 (pa p.t j)))) (pl p.t (pa p.t j) (p.t.2.1 (pa p.t j))).1 0, lo (sbf what (pl p.t (pa p.t j) (p.t.2.1 (pa p.t j)))) (pl p.t (pa p.t j) (p.t.2.1 (pa p.t j))).1 1) sm co h j 0 hj1 (by omega)) (emC ..) (Or.inl ⟨_, _, _, _, rfl, rfl⟩) rfl rfl rfl (Nat.le_of_ble_eq_true rfl) ⟨rfl, rfl, Nat.le_of_ble_eq_true rfl, Nat.le_of_ble_eq_true rfl⟩ ⟨Nat.zero_le _, Nat.zero_le _⟩ (fun out hq => ?_)
    obtain rfl := hq
    refine Z_mem (mgC ..) ?_
    refine Z_pop 35 rfl rfl ?_
    refine Z_aload_n 36 rfl rfl rfl ?_
    refine Z_get 37 rfl f_C_74 rfl rfl ?_
    refine Z_iload_n 38 rfl rfl rfl ?_
    refine Z_iconst 39 rfl ?_
    refine Z_icmp_ne 40 rfl (tgt := 89) rfl (by omega) (by omega) (fun c76 => ?_) (fun c76 => ?_)
    · refine Z_aload_n 45 rfl rfl rfl ?_
      refine Z_get 46 rfl f_C_53 rfl rfl ?_
      refine Z_getN 47 rfl f_C_192 rfl rfl ?_
      refine Z_cl (show _ = sbf what (pl p.t j 0) by unfold sbf; first | (exfalso; omega) | rw [if_pos (by omega)] | rw [if_neg (by omega)]) ?_
      refine Z_aload_n 48 rfl rfl rfl ?_
      refine Z_get 49 rfl f_C_53 rfl rfl ?_
      refine Z_getN 50 rfl f_C_195 rfl rfl ?_
      refine Z_callVv (M' := M_Q_become) 51 [23] rfl l_C_260 C_Q_become (c_Q_become l q.1 q.2 (sbf what (pl p.t j 0)) (pl p.t j 0).1) ⟨by decide, (zEL.c (Or.inl rfl) zEL.n)⟩ (Or.inl ⟨_, _, _, _, rfl, rfl⟩) rfl rfl rfl (Nat.le_of_ble_eq_true rfl) ⟨rfl, rfl, Nat.le_of_ble_eq_true rfl, Nat.le_of_ble_eq_true rfl⟩ ⟨Nat.zero_le _, Nat.zero_le _⟩ (fun out hq => ?_)
      obtain rfl := hq
      refine Z_mem (show _ = eC p rj (pl p.t j 0) w g (sbf what (pl p.t j 0), (pl p.t j 0).1) (lo (sbf what (pl p.t (pa p.t j) (p.t.2.1 (pa p.t j)))) (pl p.t (pa p.t j) (p.t.2.1 (pa p.t j))).1 0, lo (sbf what (pl p.t (pa p.t j) (p.t.2.1 (pa p.t j)))) (pl p.t (pa p.t j) (p.t.2.1 (pa p.t j))).1 1) sm co from rfl) ?_
      refine Z_aload_n 52 rfl rfl rfl ?_
      refine Z_get 53 rfl f_C_74 rfl rfl ?_
      refine Z_callVv (M' := M_Q_lower) 54 [23] rfl l_C_372 C_Q_lower (c_Q_lower l (sbf what (pl p.t j 0)) (pl p.t j 0).1 f1 (by omega)) ⟨by decide, (zEL.c (Or.inl rfl) zEL.n)⟩ (Or.inl ⟨_, _, _, _, rfl, rfl⟩) rfl rfl rfl (Nat.le_of_ble_eq_true rfl) ⟨rfl, rfl, Nat.le_of_ble_eq_true rfl, Nat.le_of_ble_eq_true rfl⟩ ⟨Nat.zero_le _, Nat.zero_le _⟩ (fun out hq => ?_)
      obtain rfl := hq
      refine Z_mem (show _ = eC p rj (pl p.t j 0) w g (lo (sbf what (pl p.t j 0)) (pl p.t j 0).1 0, lo (sbf what (pl p.t j 0)) (pl p.t j 0).1 1) (lo (sbf what (pl p.t (pa p.t j) (p.t.2.1 (pa p.t j)))) (pl p.t (pa p.t j) (p.t.2.1 (pa p.t j))).1 0, lo (sbf what (pl p.t (pa p.t j) (p.t.2.1 (pa p.t j)))) (pl p.t (pa p.t j) (p.t.2.1 (pa p.t j))).1 1) sm co from rfl) ?_
      refine Z_aload_n 55 rfl rfl rfl ?_
      refine Z_get 56 rfl f_C_74 rfl rfl ?_
      refine Z_aload_n 57 rfl rfl rfl ?_
      refine Z_get 58 rfl f_C_78 rfl rfl ?_
      refine Z_callVv (M' := M_Q_take) 59 [23, 24] rfl l_C_375 C_Q_take (c_Q_take l (lo (sbf what (pl p.t j 0)) (pl p.t j 0).1 0) (lo (sbf what (pl p.t j 0)) (pl p.t j 0).1 1) (lo (sbf what (pl p.t (pa p.t j) (p.t.2.1 (pa p.t j)))) (pl p.t (pa p.t j) (p.t.2.1 (pa p.t j))).1 0) (lo (sbf what (pl p.t (pa p.t j) (p.t.2.1 (pa p.t j)))) (pl p.t (pa p.t j) (p.t.2.1 (pa p.t j))).1 1)) ⟨by decide, (zEL.c (Or.inl rfl) (zEL.c (Or.inl rfl) zEL.n))⟩ (Or.inl ⟨_, _, _, _, rfl, rfl⟩) rfl rfl rfl (Nat.le_of_ble_eq_true rfl) ⟨rfl, rfl, Nat.le_of_ble_eq_true rfl, Nat.le_of_ble_eq_true rfl⟩ ⟨Nat.zero_le _, Nat.zero_le _⟩ (fun out hq => ?_)
      obtain rfl := hq
      refine Z_mem (show _ = eC p rj (pl p.t j 0) w g (jpa p.t j what, jpb p.t j what) (lo (sbf what (pl p.t (pa p.t j) (p.t.2.1 (pa p.t j)))) (pl p.t (pa p.t j) (p.t.2.1 (pa p.t j))).1 0, lo (sbf what (pl p.t (pa p.t j) (p.t.2.1 (pa p.t j)))) (pl p.t (pa p.t j) (p.t.2.1 (pa p.t j))).1 1) sm co from rfl) ?_
      refine Z_aload_n 60 rfl rfl rfl ?_
      refine Z_get 61 rfl f_C_74 rfl rfl ?_
      refine Z_callVv (M' := M_Q_lower) 62 [23] rfl l_C_372 C_Q_lower (c_Q_lower l (jpa p.t j what) (jpb p.t j what) (by omega) (by omega)) ⟨by decide, (zEL.c (Or.inl rfl) zEL.n)⟩ (Or.inl ⟨_, _, _, _, rfl, rfl⟩) rfl rfl rfl (Nat.le_of_ble_eq_true rfl) ⟨rfl, rfl, Nat.le_of_ble_eq_true rfl, Nat.le_of_ble_eq_true rfl⟩ ⟨Nat.zero_le _, Nat.zero_le _⟩ (fun out hq => ?_)
      obtain rfl := hq
      refine Z_mem (show _ = eC p rj (pl p.t j 0) w g (lo (jpa p.t j what) (jpb p.t j what) 0, lo (jpa p.t j what) (jpb p.t j what) 1) (lo (sbf what (pl p.t (pa p.t j) (p.t.2.1 (pa p.t j)))) (pl p.t (pa p.t j) (p.t.2.1 (pa p.t j))).1 0, lo (sbf what (pl p.t (pa p.t j) (p.t.2.1 (pa p.t j)))) (pl p.t (pa p.t j) (p.t.2.1 (pa p.t j))).1 1) sm co from rfl) ?_
      refine Z_vret 63 rfl rfl ⟨Nat.le_refl _, Nat.le_refl _⟩ ?_
      exact ⟨rfl, rfl⟩
    · refine Z_aload_n 41 rfl rfl rfl ?_
      refine Z_get 42 rfl f_C_53 rfl rfl ?_
      refine Z_getN 43 rfl f_C_188 rfl rfl ?_
      refine Z_goto 44 rfl (tgt := 96) rfl ?_
      refine Z_cl (show _ = sbf what (pl p.t j 0) by unfold sbf; first | (exfalso; omega) | rw [if_pos (by omega)] | rw [if_neg (by omega)]) ?_
      refine Z_aload_n 48 rfl rfl rfl ?_
      refine Z_get 49 rfl f_C_53 rfl rfl ?_
      refine Z_getN 50 rfl f_C_195 rfl rfl ?_
      refine Z_callVv (M' := M_Q_become) 51 [23] rfl l_C_260 C_Q_become (c_Q_become l q.1 q.2 (sbf what (pl p.t j 0)) (pl p.t j 0).1) ⟨by decide, (zEL.c (Or.inl rfl) zEL.n)⟩ (Or.inl ⟨_, _, _, _, rfl, rfl⟩) rfl rfl rfl (Nat.le_of_ble_eq_true rfl) ⟨rfl, rfl, Nat.le_of_ble_eq_true rfl, Nat.le_of_ble_eq_true rfl⟩ ⟨Nat.zero_le _, Nat.zero_le _⟩ (fun out hq => ?_)
      obtain rfl := hq
      refine Z_mem (show _ = eC p rj (pl p.t j 0) w g (sbf what (pl p.t j 0), (pl p.t j 0).1) (lo (sbf what (pl p.t (pa p.t j) (p.t.2.1 (pa p.t j)))) (pl p.t (pa p.t j) (p.t.2.1 (pa p.t j))).1 0, lo (sbf what (pl p.t (pa p.t j) (p.t.2.1 (pa p.t j)))) (pl p.t (pa p.t j) (p.t.2.1 (pa p.t j))).1 1) sm co from rfl) ?_
      refine Z_aload_n 52 rfl rfl rfl ?_
      refine Z_get 53 rfl f_C_74 rfl rfl ?_
      refine Z_callVv (M' := M_Q_lower) 54 [23] rfl l_C_372 C_Q_lower (c_Q_lower l (sbf what (pl p.t j 0)) (pl p.t j 0).1 f1 (by omega)) ⟨by decide, (zEL.c (Or.inl rfl) zEL.n)⟩ (Or.inl ⟨_, _, _, _, rfl, rfl⟩) rfl rfl rfl (Nat.le_of_ble_eq_true rfl) ⟨rfl, rfl, Nat.le_of_ble_eq_true rfl, Nat.le_of_ble_eq_true rfl⟩ ⟨Nat.zero_le _, Nat.zero_le _⟩ (fun out hq => ?_)
      obtain rfl := hq
      refine Z_mem (show _ = eC p rj (pl p.t j 0) w g (lo (sbf what (pl p.t j 0)) (pl p.t j 0).1 0, lo (sbf what (pl p.t j 0)) (pl p.t j 0).1 1) (lo (sbf what (pl p.t (pa p.t j) (p.t.2.1 (pa p.t j)))) (pl p.t (pa p.t j) (p.t.2.1 (pa p.t j))).1 0, lo (sbf what (pl p.t (pa p.t j) (p.t.2.1 (pa p.t j)))) (pl p.t (pa p.t j) (p.t.2.1 (pa p.t j))).1 1) sm co from rfl) ?_
      refine Z_aload_n 55 rfl rfl rfl ?_
      refine Z_get 56 rfl f_C_74 rfl rfl ?_
      refine Z_aload_n 57 rfl rfl rfl ?_
      refine Z_get 58 rfl f_C_78 rfl rfl ?_
      refine Z_callVv (M' := M_Q_take) 59 [23, 24] rfl l_C_375 C_Q_take (c_Q_take l (lo (sbf what (pl p.t j 0)) (pl p.t j 0).1 0) (lo (sbf what (pl p.t j 0)) (pl p.t j 0).1 1) (lo (sbf what (pl p.t (pa p.t j) (p.t.2.1 (pa p.t j)))) (pl p.t (pa p.t j) (p.t.2.1 (pa p.t j))).1 0) (lo (sbf what (pl p.t (pa p.t j) (p.t.2.1 (pa p.t j)))) (pl p.t (pa p.t j) (p.t.2.1 (pa p.t j))).1 1)) ⟨by decide, (zEL.c (Or.inl rfl) (zEL.c (Or.inl rfl) zEL.n))⟩ (Or.inl ⟨_, _, _, _, rfl, rfl⟩) rfl rfl rfl (Nat.le_of_ble_eq_true rfl) ⟨rfl, rfl, Nat.le_of_ble_eq_true rfl, Nat.le_of_ble_eq_true rfl⟩ ⟨Nat.zero_le _, Nat.zero_le _⟩ (fun out hq => ?_)
      obtain rfl := hq
      refine Z_mem (show _ = eC p rj (pl p.t j 0) w g (jpa p.t j what, jpb p.t j what) (lo (sbf what (pl p.t (pa p.t j) (p.t.2.1 (pa p.t j)))) (pl p.t (pa p.t j) (p.t.2.1 (pa p.t j))).1 0, lo (sbf what (pl p.t (pa p.t j) (p.t.2.1 (pa p.t j)))) (pl p.t (pa p.t j) (p.t.2.1 (pa p.t j))).1 1) sm co from rfl) ?_
      refine Z_aload_n 60 rfl rfl rfl ?_
      refine Z_get 61 rfl f_C_74 rfl rfl ?_
      refine Z_callVv (M' := M_Q_lower) 62 [23] rfl l_C_372 C_Q_lower (c_Q_lower l (jpa p.t j what) (jpb p.t j what) (by omega) (by omega)) ⟨by decide, (zEL.c (Or.inl rfl) zEL.n)⟩ (Or.inl ⟨_, _, _, _, rfl, rfl⟩) rfl rfl rfl (Nat.le_of_ble_eq_true rfl) ⟨rfl, rfl, Nat.le_of_ble_eq_true rfl, Nat.le_of_ble_eq_true rfl⟩ ⟨Nat.zero_le _, Nat.zero_le _⟩ (fun out hq => ?_)
      obtain rfl := hq
      refine Z_mem (show _ = eC p rj (pl p.t j 0) w g (lo (jpa p.t j what) (jpb p.t j what) 0, lo (jpa p.t j what) (jpb p.t j what) 1) (lo (sbf what (pl p.t (pa p.t j) (p.t.2.1 (pa p.t j)))) (pl p.t (pa p.t j) (p.t.2.1 (pa p.t j))).1 0, lo (sbf what (pl p.t (pa p.t j) (p.t.2.1 (pa p.t j)))) (pl p.t (pa p.t j) (p.t.2.1 (pa p.t j))).1 1) sm co from rfl) ?_
      refine Z_vret 63 rfl rfl ⟨Nat.le_refl _, Nat.le_refl _⟩ ?_
      exact ⟨rfl, rfl⟩
  · refine Z_aload_n 17 rfl rfl rfl ?_
    refine Z_get 18 rfl f_C_53 rfl rfl ?_
    refine Z_getN 19 rfl f_C_188 rfl rfl ?_
    refine Z_goto 20 rfl (tgt := 46) rfl ?_
    refine Z_cl (show _ = sbf what (pl p.t (pa p.t j) (p.t.2.1 (pa p.t j))) by unfold sbf; first | (exfalso; omega) | rw [if_pos (by omega)] | rw [if_neg (by omega)]) ?_
    refine Z_aload_n 24 rfl rfl rfl ?_
    refine Z_get 25 rfl f_C_53 rfl rfl ?_
    refine Z_getN 26 rfl f_C_195 rfl rfl ?_
    refine Z_callVv (M' := M_Q_become) 27 [24] rfl l_C_260 C_Q_become (c_Q_become l q2.1 q2.2 (sbf what (pl p.t (pa p.t j) (p.t.2.1 (pa p.t j)))) (pl p.t (pa p.t j) (p.t.2.1 (pa p.t j))).1) ⟨by decide, (zEL.c (Or.inl rfl) zEL.n)⟩ (Or.inl ⟨_, _, _, _, rfl, rfl⟩) rfl rfl rfl (Nat.le_of_ble_eq_true rfl) ⟨rfl, rfl, Nat.le_of_ble_eq_true rfl, Nat.le_of_ble_eq_true rfl⟩ ⟨Nat.zero_le _, Nat.zero_le _⟩ (fun out hq => ?_)
    obtain rfl := hq
    refine Z_mem (show _ = eC p rj (pl p.t (pa p.t j) (p.t.2.1 (pa p.t j))) w g q (sbf what (pl p.t (pa p.t j) (p.t.2.1 (pa p.t j))), (pl p.t (pa p.t j) (p.t.2.1 (pa p.t j))).1) sm co from rfl) ?_
    refine Z_aload_n 28 rfl rfl rfl ?_
    refine Z_get 29 rfl f_C_78 rfl rfl ?_
    refine Z_callVv (M' := M_Q_lower) 30 [24] rfl l_C_372 C_Q_lower (c_Q_lower l (sbf what (pl p.t (pa p.t j) (p.t.2.1 (pa p.t j)))) (pl p.t (pa p.t j) (p.t.2.1 (pa p.t j))).1 f2 (by omega)) ⟨by decide, (zEL.c (Or.inl rfl) zEL.n)⟩ (Or.inl ⟨_, _, _, _, rfl, rfl⟩) rfl rfl rfl (Nat.le_of_ble_eq_true rfl) ⟨rfl, rfl, Nat.le_of_ble_eq_true rfl, Nat.le_of_ble_eq_true rfl⟩ ⟨Nat.zero_le _, Nat.zero_le _⟩ (fun out hq => ?_)
    obtain rfl := hq
    refine Z_mem (show _ = eC p rj (pl p.t (pa p.t j) (p.t.2.1 (pa p.t j))) w g q (lo (sbf what (pl p.t (pa p.t j) (p.t.2.1 (pa p.t j)))) (pl p.t (pa p.t j) (p.t.2.1 (pa p.t j))).1 0, lo (sbf what (pl p.t (pa p.t j) (p.t.2.1 (pa p.t j)))) (pl p.t (pa p.t j) (p.t.2.1 (pa p.t j))).1 1) sm co from rfl) ?_
    refine Z_aload_n 31 rfl rfl rfl ?_
    refine Z_iload_n 32 rfl rfl rfl ?_
    refine Z_iconst 33 rfl ?_
    refine Z_callVb (M' := M_C_standIn) 34 isC rfl l_C_362 C_C_standIn (c_C_standIn l p rj (pl p.t (pa p.t j) (p.t.2.1 (pa p.t j))) w g q (lo (sbf what (pl p.t (pa p.t j) (p.t.2.1 (pa p.t j)))) (pl p.t (pa p.t j) (p.t.2.1 (pa p.t j))).1 0, lo (sbf what (pl p.t (pa p.t j) (p.t.2.1 (pa p.t j)))) (pl p.t (pa p.t j) (p.t.2.1 (pa p.t j))).1 1) sm co h j 0 hj1 (by omega)) (emC ..) (Or.inl ⟨_, _, _, _, rfl, rfl⟩) rfl rfl rfl (Nat.le_of_ble_eq_true rfl) ⟨rfl, rfl, Nat.le_of_ble_eq_true rfl, Nat.le_of_ble_eq_true rfl⟩ ⟨Nat.zero_le _, Nat.zero_le _⟩ (fun out hq => ?_)
    obtain rfl := hq
    refine Z_mem (mgC ..) ?_
    refine Z_pop 35 rfl rfl ?_
    refine Z_aload_n 36 rfl rfl rfl ?_
    refine Z_get 37 rfl f_C_74 rfl rfl ?_
    refine Z_iload_n 38 rfl rfl rfl ?_
    refine Z_iconst 39 rfl ?_
    refine Z_icmp_ne 40 rfl (tgt := 89) rfl (by omega) (by omega) (fun c76 => ?_) (fun c76 => ?_)
    · refine Z_aload_n 45 rfl rfl rfl ?_
      refine Z_get 46 rfl f_C_53 rfl rfl ?_
      refine Z_getN 47 rfl f_C_192 rfl rfl ?_
      refine Z_cl (show _ = sbf what (pl p.t j 0) by unfold sbf; first | (exfalso; omega) | rw [if_pos (by omega)] | rw [if_neg (by omega)]) ?_
      refine Z_aload_n 48 rfl rfl rfl ?_
      refine Z_get 49 rfl f_C_53 rfl rfl ?_
      refine Z_getN 50 rfl f_C_195 rfl rfl ?_
      refine Z_callVv (M' := M_Q_become) 51 [23] rfl l_C_260 C_Q_become (c_Q_become l q.1 q.2 (sbf what (pl p.t j 0)) (pl p.t j 0).1) ⟨by decide, (zEL.c (Or.inl rfl) zEL.n)⟩ (Or.inl ⟨_, _, _, _, rfl, rfl⟩) rfl rfl rfl (Nat.le_of_ble_eq_true rfl) ⟨rfl, rfl, Nat.le_of_ble_eq_true rfl, Nat.le_of_ble_eq_true rfl⟩ ⟨Nat.zero_le _, Nat.zero_le _⟩ (fun out hq => ?_)
      obtain rfl := hq
      refine Z_mem (show _ = eC p rj (pl p.t j 0) w g (sbf what (pl p.t j 0), (pl p.t j 0).1) (lo (sbf what (pl p.t (pa p.t j) (p.t.2.1 (pa p.t j)))) (pl p.t (pa p.t j) (p.t.2.1 (pa p.t j))).1 0, lo (sbf what (pl p.t (pa p.t j) (p.t.2.1 (pa p.t j)))) (pl p.t (pa p.t j) (p.t.2.1 (pa p.t j))).1 1) sm co from rfl) ?_
      refine Z_aload_n 52 rfl rfl rfl ?_
      refine Z_get 53 rfl f_C_74 rfl rfl ?_
      refine Z_callVv (M' := M_Q_lower) 54 [23] rfl l_C_372 C_Q_lower (c_Q_lower l (sbf what (pl p.t j 0)) (pl p.t j 0).1 f1 (by omega)) ⟨by decide, (zEL.c (Or.inl rfl) zEL.n)⟩ (Or.inl ⟨_, _, _, _, rfl, rfl⟩) rfl rfl rfl (Nat.le_of_ble_eq_true rfl) ⟨rfl, rfl, Nat.le_of_ble_eq_true rfl, Nat.le_of_ble_eq_true rfl⟩ ⟨Nat.zero_le _, Nat.zero_le _⟩ (fun out hq => ?_)
      obtain rfl := hq
      refine Z_mem (show _ = eC p rj (pl p.t j 0) w g (lo (sbf what (pl p.t j 0)) (pl p.t j 0).1 0, lo (sbf what (pl p.t j 0)) (pl p.t j 0).1 1) (lo (sbf what (pl p.t (pa p.t j) (p.t.2.1 (pa p.t j)))) (pl p.t (pa p.t j) (p.t.2.1 (pa p.t j))).1 0, lo (sbf what (pl p.t (pa p.t j) (p.t.2.1 (pa p.t j)))) (pl p.t (pa p.t j) (p.t.2.1 (pa p.t j))).1 1) sm co from rfl) ?_
      refine Z_aload_n 55 rfl rfl rfl ?_
      refine Z_get 56 rfl f_C_74 rfl rfl ?_
      refine Z_aload_n 57 rfl rfl rfl ?_
      refine Z_get 58 rfl f_C_78 rfl rfl ?_
      refine Z_callVv (M' := M_Q_take) 59 [23, 24] rfl l_C_375 C_Q_take (c_Q_take l (lo (sbf what (pl p.t j 0)) (pl p.t j 0).1 0) (lo (sbf what (pl p.t j 0)) (pl p.t j 0).1 1) (lo (sbf what (pl p.t (pa p.t j) (p.t.2.1 (pa p.t j)))) (pl p.t (pa p.t j) (p.t.2.1 (pa p.t j))).1 0) (lo (sbf what (pl p.t (pa p.t j) (p.t.2.1 (pa p.t j)))) (pl p.t (pa p.t j) (p.t.2.1 (pa p.t j))).1 1)) ⟨by decide, (zEL.c (Or.inl rfl) (zEL.c (Or.inl rfl) zEL.n))⟩ (Or.inl ⟨_, _, _, _, rfl, rfl⟩) rfl rfl rfl (Nat.le_of_ble_eq_true rfl) ⟨rfl, rfl, Nat.le_of_ble_eq_true rfl, Nat.le_of_ble_eq_true rfl⟩ ⟨Nat.zero_le _, Nat.zero_le _⟩ (fun out hq => ?_)
      obtain rfl := hq
      refine Z_mem (show _ = eC p rj (pl p.t j 0) w g (jpa p.t j what, jpb p.t j what) (lo (sbf what (pl p.t (pa p.t j) (p.t.2.1 (pa p.t j)))) (pl p.t (pa p.t j) (p.t.2.1 (pa p.t j))).1 0, lo (sbf what (pl p.t (pa p.t j) (p.t.2.1 (pa p.t j)))) (pl p.t (pa p.t j) (p.t.2.1 (pa p.t j))).1 1) sm co from rfl) ?_
      refine Z_aload_n 60 rfl rfl rfl ?_
      refine Z_get 61 rfl f_C_74 rfl rfl ?_
      refine Z_callVv (M' := M_Q_lower) 62 [23] rfl l_C_372 C_Q_lower (c_Q_lower l (jpa p.t j what) (jpb p.t j what) (by omega) (by omega)) ⟨by decide, (zEL.c (Or.inl rfl) zEL.n)⟩ (Or.inl ⟨_, _, _, _, rfl, rfl⟩) rfl rfl rfl (Nat.le_of_ble_eq_true rfl) ⟨rfl, rfl, Nat.le_of_ble_eq_true rfl, Nat.le_of_ble_eq_true rfl⟩ ⟨Nat.zero_le _, Nat.zero_le _⟩ (fun out hq => ?_)
      obtain rfl := hq
      refine Z_mem (show _ = eC p rj (pl p.t j 0) w g (lo (jpa p.t j what) (jpb p.t j what) 0, lo (jpa p.t j what) (jpb p.t j what) 1) (lo (sbf what (pl p.t (pa p.t j) (p.t.2.1 (pa p.t j)))) (pl p.t (pa p.t j) (p.t.2.1 (pa p.t j))).1 0, lo (sbf what (pl p.t (pa p.t j) (p.t.2.1 (pa p.t j)))) (pl p.t (pa p.t j) (p.t.2.1 (pa p.t j))).1 1) sm co from rfl) ?_
      refine Z_vret 63 rfl rfl ⟨Nat.le_refl _, Nat.le_refl _⟩ ?_
      exact ⟨rfl, rfl⟩
    · refine Z_aload_n 41 rfl rfl rfl ?_
      refine Z_get 42 rfl f_C_53 rfl rfl ?_
      refine Z_getN 43 rfl f_C_188 rfl rfl ?_
      refine Z_goto 44 rfl (tgt := 96) rfl ?_
      refine Z_cl (show _ = sbf what (pl p.t j 0) by unfold sbf; first | (exfalso; omega) | rw [if_pos (by omega)] | rw [if_neg (by omega)]) ?_
      refine Z_aload_n 48 rfl rfl rfl ?_
      refine Z_get 49 rfl f_C_53 rfl rfl ?_
      refine Z_getN 50 rfl f_C_195 rfl rfl ?_
      refine Z_callVv (M' := M_Q_become) 51 [23] rfl l_C_260 C_Q_become (c_Q_become l q.1 q.2 (sbf what (pl p.t j 0)) (pl p.t j 0).1) ⟨by decide, (zEL.c (Or.inl rfl) zEL.n)⟩ (Or.inl ⟨_, _, _, _, rfl, rfl⟩) rfl rfl rfl (Nat.le_of_ble_eq_true rfl) ⟨rfl, rfl, Nat.le_of_ble_eq_true rfl, Nat.le_of_ble_eq_true rfl⟩ ⟨Nat.zero_le _, Nat.zero_le _⟩ (fun out hq => ?_)
      obtain rfl := hq
      refine Z_mem (show _ = eC p rj (pl p.t j 0) w g (sbf what (pl p.t j 0), (pl p.t j 0).1) (lo (sbf what (pl p.t (pa p.t j) (p.t.2.1 (pa p.t j)))) (pl p.t (pa p.t j) (p.t.2.1 (pa p.t j))).1 0, lo (sbf what (pl p.t (pa p.t j) (p.t.2.1 (pa p.t j)))) (pl p.t (pa p.t j) (p.t.2.1 (pa p.t j))).1 1) sm co from rfl) ?_
      refine Z_aload_n 52 rfl rfl rfl ?_
      refine Z_get 53 rfl f_C_74 rfl rfl ?_
      refine Z_callVv (M' := M_Q_lower) 54 [23] rfl l_C_372 C_Q_lower (c_Q_lower l (sbf what (pl p.t j 0)) (pl p.t j 0).1 f1 (by omega)) ⟨by decide, (zEL.c (Or.inl rfl) zEL.n)⟩ (Or.inl ⟨_, _, _, _, rfl, rfl⟩) rfl rfl rfl (Nat.le_of_ble_eq_true rfl) ⟨rfl, rfl, Nat.le_of_ble_eq_true rfl, Nat.le_of_ble_eq_true rfl⟩ ⟨Nat.zero_le _, Nat.zero_le _⟩ (fun out hq => ?_)
      obtain rfl := hq
      refine Z_mem (show _ = eC p rj (pl p.t j 0) w g (lo (sbf what (pl p.t j 0)) (pl p.t j 0).1 0, lo (sbf what (pl p.t j 0)) (pl p.t j 0).1 1) (lo (sbf what (pl p.t (pa p.t j) (p.t.2.1 (pa p.t j)))) (pl p.t (pa p.t j) (p.t.2.1 (pa p.t j))).1 0, lo (sbf what (pl p.t (pa p.t j) (p.t.2.1 (pa p.t j)))) (pl p.t (pa p.t j) (p.t.2.1 (pa p.t j))).1 1) sm co from rfl) ?_
      refine Z_aload_n 55 rfl rfl rfl ?_
      refine Z_get 56 rfl f_C_74 rfl rfl ?_
      refine Z_aload_n 57 rfl rfl rfl ?_
      refine Z_get 58 rfl f_C_78 rfl rfl ?_
      refine Z_callVv (M' := M_Q_take) 59 [23, 24] rfl l_C_375 C_Q_take (c_Q_take l (lo (sbf what (pl p.t j 0)) (pl p.t j 0).1 0) (lo (sbf what (pl p.t j 0)) (pl p.t j 0).1 1) (lo (sbf what (pl p.t (pa p.t j) (p.t.2.1 (pa p.t j)))) (pl p.t (pa p.t j) (p.t.2.1 (pa p.t j))).1 0) (lo (sbf what (pl p.t (pa p.t j) (p.t.2.1 (pa p.t j)))) (pl p.t (pa p.t j) (p.t.2.1 (pa p.t j))).1 1)) ⟨by decide, (zEL.c (Or.inl rfl) (zEL.c (Or.inl rfl) zEL.n))⟩ (Or.inl ⟨_, _, _, _, rfl, rfl⟩) rfl rfl rfl (Nat.le_of_ble_eq_true rfl) ⟨rfl, rfl, Nat.le_of_ble_eq_true rfl, Nat.le_of_ble_eq_true rfl⟩ ⟨Nat.zero_le _, Nat.zero_le _⟩ (fun out hq => ?_)
      obtain rfl := hq
      refine Z_mem (show _ = eC p rj (pl p.t j 0) w g (jpa p.t j what, jpb p.t j what) (lo (sbf what (pl p.t (pa p.t j) (p.t.2.1 (pa p.t j)))) (pl p.t (pa p.t j) (p.t.2.1 (pa p.t j))).1 0, lo (sbf what (pl p.t (pa p.t j) (p.t.2.1 (pa p.t j)))) (pl p.t (pa p.t j) (p.t.2.1 (pa p.t j))).1 1) sm co from rfl) ?_
      refine Z_aload_n 60 rfl rfl rfl ?_
      refine Z_get 61 rfl f_C_74 rfl rfl ?_
      refine Z_callVv (M' := M_Q_lower) 62 [23] rfl l_C_372 C_Q_lower (c_Q_lower l (jpa p.t j what) (jpb p.t j what) (by omega) (by omega)) ⟨by decide, (zEL.c (Or.inl rfl) zEL.n)⟩ (Or.inl ⟨_, _, _, _, rfl, rfl⟩) rfl rfl rfl (Nat.le_of_ble_eq_true rfl) ⟨rfl, rfl, Nat.le_of_ble_eq_true rfl, Nat.le_of_ble_eq_true rfl⟩ ⟨Nat.zero_le _, Nat.zero_le _⟩ (fun out hq => ?_)
      obtain rfl := hq
      refine Z_mem (show _ = eC p rj (pl p.t j 0) w g (lo (jpa p.t j what) (jpb p.t j what) 0, lo (jpa p.t j what) (jpb p.t j what) 1) (lo (sbf what (pl p.t (pa p.t j) (p.t.2.1 (pa p.t j)))) (pl p.t (pa p.t j) (p.t.2.1 (pa p.t j))).1 0, lo (sbf what (pl p.t (pa p.t j) (p.t.2.1 (pa p.t j)))) (pl p.t (pa p.t j) (p.t.2.1 (pa p.t j))).1 1) sm co from rfl) ?_
      refine Z_vret 63 rfl rfl ⟨Nat.le_refl _, Nat.le_refl _⟩ ?_
      exact ⟨rfl, rfl⟩
theorem c_C_kindOfJoin (h : PV p) (j : Int) (hh : hj p.t j) : Con l M_C_kindOfJoin R_C_kindOfJoin 0 0 false [.ref 0, .int (iI j)] (eC p rj s w g q q2 sm co) (zAi (jkd p.t j) (fun m => ∃ s' q' q2', m = eC p rj s' w g q' q2' sm co)) := by
  have e1 := lo_z (jpa p.t j 1) (jpb p.t j 1) (jp_bd h.1 1 hh).2.1
  have e2 := lo_z (jpa p.t j 2) (jpb p.t j 2) (jp_bd h.1 2 hh).2.1
  have d1 := jl_bd h.1 1 hh
  have d2 := jl_bd h.1 2 hh
  refine Con.of_Z (by decide) D_C_kindOfJoin (Nat.le_of_ble_eq_true rfl) ?_
  refine Z_aload_n 0 rfl rfl rfl ?_
  refine Z_iload_n 1 rfl rfl rfl ?_
  refine Z_iconst 2 rfl ?_
  refine Z_callVv (M' := M_C_reckonJump) 3 isC rfl l_C_205 C_C_reckonJump (c_C_reckonJump l p rj s w g q q2 sm co h j 1 hh (Or.inl rfl)) (emC ..) (Or.inl ⟨_, _, _, _, rfl, rfl⟩) rfl rfl rfl (Nat.le_of_ble_eq_true rfl) ⟨rfl, rfl, Nat.le_of_ble_eq_true rfl, Nat.le_of_ble_eq_true rfl⟩ ⟨Nat.zero_le _, Nat.zero_le _⟩ (fun out hq => ?_)
  obtain rfl := hq
  refine Z_mem (mgC ..) ?_
  refine Z_aload_n 4 rfl rfl rfl ?_
  refine Z_get 5 rfl f_C_74 rfl rfl ?_
  refine Z_getN 6 rfl f_C_209 rfl rfl ?_
  refine Z_lconst 7 rfl ?_
  refine Z_lc_eq 8 rfl rfl (tgt := 20) rfl (by omega) (by omega) (fun c14 => ?_) (fun c14 => ?_)
  · refine Z_aload_n 12 rfl rfl rfl ?_
    refine Z_iload_n 13 rfl rfl rfl ?_
    refine Z_iconst 14 rfl ?_
    refine Z_callVv (M' := M_C_reckonJump) 15 isC rfl l_C_205 C_C_reckonJump (c_C_reckonJump l p rj (pl p.t j 0) w g (lo (jpa p.t j 1) (jpb p.t j 1) 0, lo (jpa p.t j 1) (jpb p.t j 1) 1) (lo (sbf 1 (pl p.t (pa p.t j) (p.t.2.1 (pa p.t j)))) (pl p.t (pa p.t j) (p.t.2.1 (pa p.t j))).1 0, lo (sbf 1 (pl p.t (pa p.t j) (p.t.2.1 (pa p.t j)))) (pl p.t (pa p.t j) (p.t.2.1 (pa p.t j))).1 1) sm co h j 2 hh (Or.inr rfl)) (emC ..) (Or.inl ⟨_, _, _, _, rfl, rfl⟩) rfl rfl rfl (Nat.le_of_ble_eq_true rfl) ⟨rfl, rfl, Nat.le_of_ble_eq_true rfl, Nat.le_of_ble_eq_true rfl⟩ ⟨Nat.zero_le _, Nat.zero_le _⟩ (fun out hq => ?_)
    obtain rfl := hq
    refine Z_mem (mgC ..) ?_
    refine Z_aload_n 16 rfl rfl rfl ?_
    refine Z_get 17 rfl f_C_74 rfl rfl ?_
    refine Z_getN 18 rfl f_C_209 rfl rfl ?_
    refine Z_lconst 19 rfl ?_
    refine Z_lc_eq 20 rfl rfl (tgt := 42) rfl (by omega) (by omega) (fun c34 => ?_) (fun c34 => ?_)
    · refine Z_iconst 24 rfl ?_
      refine Z_iret 25 rfl rfl ⟨Nat.le_refl _, Nat.le_refl _⟩ ?_
      exact ⟨by unfold jkd; (repeat (first | rw [cif_t (by first | assumption | omega)] | rw [cif_f (by first | assumption | omega)])), _, _, _, rfl⟩
    · refine Z_iconst 22 rfl ?_
      refine Z_goto 23 rfl (tgt := 43) rfl ?_
      refine Z_iret 25 rfl rfl ⟨Nat.le_refl _, Nat.le_refl _⟩ ?_
      exact ⟨by unfold jkd; (repeat (first | rw [cif_t (by first | assumption | omega)] | rw [cif_f (by first | assumption | omega)])), _, _, _, rfl⟩
  · refine Z_iconst 10 rfl ?_
    refine Z_iret 11 rfl rfl ⟨Nat.le_refl _, Nat.le_refl _⟩ ?_
    exact ⟨by unfold jkd; (repeat (first | rw [cif_t (by first | assumption | omega)] | rw [cif_f (by first | assumption | omega)])), _, _, _, rfl⟩
theorem c_C_jump (h : PV p) (j what part : Int) (hi : inI j) (hw : inI what) (hp : inI part) : Con l M_C_jump R_C_jump 0 0 false [.ref 0, .int (iI j), .int (iI what), .int (iI part)] (eC p rj s w g q q2 sm co) (zAl (jumpF p.t j what part) (fun m => ∃ s' q' q2', m = eC p rj s' w g q' q2' sm co)) := by
  refine Con.of_Z (by decide) D_C_jump (Nat.le_of_ble_eq_true rfl) ?_
  refine Z_aload_n 0 rfl rfl rfl ?_
  refine Z_iload_n 1 rfl rfl rfl ?_
  refine Z_callVbp (M' := M_C_hasJoin) 2 isC rfl l_C_202 C_C_hasJoin (c_C_hasJoin l p rj s w g q q2 sm co h j hi) (emC ..) (Or.inl ⟨_, _, _, _, rfl, rfl⟩) rfl rfl rfl (Nat.le_of_ble_eq_true rfl) ⟨rfl, rfl, Nat.le_of_ble_eq_true rfl, Nat.le_of_ble_eq_true rfl⟩ ⟨Nat.zero_le _, Nat.zero_le _⟩ ?_
  refine Z_ifb_eq 3 rfl (tgt := 24) rfl (fun c5 => ?_) (fun c5 => ?_)
  · refine Z_ldc2 12 rfl k_C_182 (c := -9223372036854775808) rfl ?_
    refine Z_lret 13 rfl rfl ⟨Nat.le_refl _, Nat.le_refl _⟩ ?_
    exact ⟨by unfold jumpF; (repeat (first | rw [cif_t (by first | assumption | omega)] | rw [cif_f (by first | assumption | omega)])) <;> first | rfl | (rcases c21 with e | e <;> subst e <;> first | rfl | (exfalso; omega)), _, _, _, rfl⟩
  · refine Z_iload_n 4 rfl rfl rfl ?_
    refine Z_if_lt 5 rfl (tgt := 24) rfl (by omega) (fun c9 => ?_) (fun c9 => ?_)
    · refine Z_ldc2 12 rfl k_C_182 (c := -9223372036854775808) rfl ?_
      refine Z_lret 13 rfl rfl ⟨Nat.le_refl _, Nat.le_refl _⟩ ?_
      exact ⟨by unfold jumpF; (repeat (first | rw [cif_t (by first | assumption | omega)] | rw [cif_f (by first | assumption | omega)])) <;> first | rfl | (rcases c21 with e | e <;> subst e <;> first | rfl | (exfalso; omega)), _, _, _, rfl⟩
    · refine Z_iload_n 6 rfl rfl rfl ?_
      refine Z_iconst 7 rfl ?_
      refine Z_icmp_gt 8 rfl (tgt := 24) rfl (by omega) (by omega) (fun c14 => ?_) (fun c14 => ?_)
      · refine Z_ldc2 12 rfl k_C_182 (c := -9223372036854775808) rfl ?_
        refine Z_lret 13 rfl rfl ⟨Nat.le_refl _, Nat.le_refl _⟩ ?_
        exact ⟨by unfold jumpF; (repeat (first | rw [cif_t (by first | assumption | omega)] | rw [cif_f (by first | assumption | omega)])) <;> first | rfl | (rcases c21 with e | e <;> subst e <;> first | rfl | (exfalso; omega)), _, _, _, rfl⟩
      · refine Z_iload_n 9 rfl rfl rfl ?_
        refine Z_callSbp (M' := M_C_isPart) 10 [] rfl l_C_176 C_C_isPart (c_C_isPart l part hp) ⟨List.nodup_nil, zEL.n⟩ rfl rfl rfl (Nat.le_of_ble_eq_true rfl) ⟨rfl, rfl, Nat.le_of_ble_eq_true rfl, Nat.le_of_ble_eq_true rfl⟩ ⟨Nat.zero_le _, Nat.zero_le _⟩ ?_
        refine Z_ifb_ne 11 rfl (tgt := 28) rfl (fun c21 => ?_) (fun c21 => ?_)
        · refine Z_aload_n 14 rfl rfl rfl ?_
          refine Z_iload_n 15 rfl rfl rfl ?_
          refine Z_iload_n 16 rfl rfl rfl ?_
          refine Z_iconst 17 rfl ?_
          refine Z_iadd 18 rfl ?_
          refine Z_callVv (M' := M_C_reckonJump) 19 isC rfl l_C_205 C_C_reckonJump (c_C_reckonJump l p rj s w g q q2 sm co h j (what + 1) c5 (by omega)) (emC ..) (Or.inl ⟨_, _, _, _, rfl, rfl⟩) rfl rfl rfl (Nat.le_of_ble_eq_true rfl) ⟨rfl, rfl, Nat.le_of_ble_eq_true rfl, Nat.le_of_ble_eq_true rfl⟩ ⟨Nat.zero_le _, Nat.zero_le _⟩ (fun out hq => ?_)
          obtain rfl := hq
          refine Z_mem (mgC ..) ?_
          refine Z_iload_n 20 rfl rfl rfl ?_
          refine Z_if_ne 21 rfl (tgt := 50) rfl (by omega) (fun c37 => ?_) (fun c37 => ?_)
          · refine Z_aload_n 26 rfl rfl rfl ?_
            refine Z_get 27 rfl f_C_74 rfl rfl ?_
            refine Z_getN 28 rfl f_C_212 rfl rfl ?_
            refine Z_lret 29 rfl rfl ⟨Nat.le_refl _, Nat.le_refl _⟩ ?_
            exact ⟨by unfold jumpF; (repeat (first | rw [cif_t (by first | assumption | omega)] | rw [cif_f (by first | assumption | omega)])) <;> first | rfl | (rcases c21 with e | e <;> subst e <;> first | rfl | (exfalso; omega)), _, _, _, rfl⟩
          · refine Z_aload_n 22 rfl rfl rfl ?_
            refine Z_get 23 rfl f_C_74 rfl rfl ?_
            refine Z_getN 24 rfl f_C_209 rfl rfl ?_
            refine Z_goto 25 rfl (tgt := 57) rfl ?_
            refine Z_lret 29 rfl rfl ⟨Nat.le_refl _, Nat.le_refl _⟩ ?_
            exact ⟨by unfold jumpF; (repeat (first | rw [cif_t (by first | assumption | omega)] | rw [cif_f (by first | assumption | omega)])) <;> first | rfl | (rcases c21 with e | e <;> subst e <;> first | rfl | (exfalso; omega)), _, _, _, rfl⟩
        · refine Z_ldc2 12 rfl k_C_182 (c := -9223372036854775808) rfl ?_
          refine Z_lret 13 rfl rfl ⟨Nat.le_refl _, Nat.le_refl _⟩ ?_
          exact ⟨by unfold jumpF; (repeat (first | rw [cif_t (by first | assumption | omega)] | rw [cif_f (by first | assumption | omega)])) <;> first | rfl | (rcases c21 with e | e <;> subst e <;> first | rfl | (exfalso; omega)), _, _, _, rfl⟩
theorem c_C_join (h : PV p) (j : Int) (hi : inI j) : Con l M_C_join R_C_join 0 0 false [.ref 0, .int (iI j)] (eC p rj s w g q q2 sm co) (zAi (joinF p.t j) (fun m => ∃ s' q' q2', m = eC p rj s' w g q' q2' sm co)) := by
  refine Con.of_Z (by decide) D_C_join (Nat.le_of_ble_eq_true rfl) ?_
  refine Z_aload_n 0 rfl rfl rfl ?_
  refine Z_iload_n 1 rfl rfl rfl ?_
  refine Z_callVbp (M' := M_C_hasJoin) 2 isC rfl l_C_202 C_C_hasJoin (c_C_hasJoin l p rj s w g q q2 sm co h j hi) (emC ..) (Or.inl ⟨_, _, _, _, rfl, rfl⟩) rfl rfl rfl (Nat.le_of_ble_eq_true rfl) ⟨rfl, rfl, Nat.le_of_ble_eq_true rfl, Nat.le_of_ble_eq_true rfl⟩ ⟨Nat.zero_le _, Nat.zero_le _⟩ ?_
  refine Z_ifb_eq 3 rfl (tgt := 16) rfl (fun c5 => ?_) (fun c5 => ?_)
  · refine Z_iconst 8 rfl ?_
    refine Z_iret 9 rfl rfl ⟨Nat.le_refl _, Nat.le_refl _⟩ ?_
    exact ⟨by unfold joinF; (repeat (first | rw [cif_t (by first | assumption | omega)] | rw [cif_f (by first | assumption | omega)])), _, _, _, rfl⟩
  · refine Z_aload_n 4 rfl rfl rfl ?_
    refine Z_iload_n 5 rfl rfl rfl ?_
    refine Z_callVi (M' := M_C_kindOfJoin) 6 isC rfl l_C_213 C_C_kindOfJoin (c_C_kindOfJoin l p rj s w g q q2 sm co h j c5) (emC ..) (Or.inl ⟨_, _, _, _, rfl, rfl⟩) rfl rfl rfl (Nat.le_of_ble_eq_true rfl) ⟨rfl, rfl, Nat.le_of_ble_eq_true rfl, Nat.le_of_ble_eq_true rfl⟩ ⟨Nat.zero_le _, Nat.zero_le _⟩ (fun out hq => ?_)
    obtain ⟨_, _, _, rfl⟩ := hq
    refine Z_mem (mgC ..) ?_
    refine Z_goto 7 rfl (tgt := 17) rfl ?_
    refine Z_iret 9 rfl rfl ⟨Nat.le_refl _, Nat.le_refl _⟩ ?_
    exact ⟨by unfold joinF; (repeat (first | rw [cif_t (by first | assumption | omega)] | rw [cif_f (by first | assumption | omega)])), _, _, _, rfl⟩
theorem lp_C_joins (h : PV p) (what : Int) (hw : 0 ≤ what ∧ what ≤ 2) : ∀ (d : Nat) (k : Int) (s : SS) (q q2 : Int × Int), 0 ≤ k → k ≤ p.t.2.2.2 → p.t.2.2.2 - k < d → Z (l, M_C_joins, R_C_joins, (0, 0), false, zAi (jbI p.t what p.t.2.2.2).toInt (fun m => ∃ s' q' q2', m = eC p rj s' w g q' q2' sm co)) 0 0 (eC p rj s w g q q2 sm co) 15 [(0, .ref 0), (1, .int (iI what)), (2, .int (jbI p.t what k)), (3, .int (iI k))] [] := by
  have h1 := h.1.1.1
  intro d
  induction d with
  | zero => intro k s q q2 h2 h3 h4; omega
  | succ d ih =>
    intro k s q q2 h2 h3 h4
    have e := jbI_s p.t what h2
    have hkb : ∀ j, 0 ≤ jkd p.t j ∧ jkd p.t j ≤ 2 := by
      intro j
      unfold jkd
      by_cases z1 : jpa p.t j 1 = 0
      · rw [cif_t z1]
        by_cases z2 : jpa p.t j 2 = 0
        · rw [cif_t z2]; omega
        · rw [cif_f z2]; omega
      · rw [cif_f z1]; omega
    have hkb2 := hkb k
    refine Z_iload_n 11 rfl rfl rfl ?_
    refine Z_aload_n 12 rfl rfl rfl ?_
    refine Z_get 13 rfl f_C_14 rfl rfl ?_
    refine Z_callVip (M' := M_T_size) 14 [1, 2, 3, 4] rfl l_C_111 C_T_size (c_T_size l p.t) ⟨by decide, (zEL.c (Or.inl rfl) (zEL.c (Or.inl rfl) (zEL.c (Or.inl rfl) (zEL.c (Or.inl rfl) zEL.n))))⟩ (Or.inl ⟨_, _, _, _, rfl, rfl⟩) rfl rfl rfl (Nat.le_of_ble_eq_true rfl) ⟨rfl, rfl, Nat.le_of_ble_eq_true rfl, Nat.le_of_ble_eq_true rfl⟩ ⟨Nat.zero_le _, Nat.zero_le _⟩ ?_
    refine Z_icmp_ge 15 rfl (tgt := 55) rfl (by omega) (by omega) (fun c23 => ?_) (fun c23 => ?_)
    · refine Z_iload_n 33 rfl rfl rfl ?_
      refine Z_iret 34 rfl rfl ⟨Nat.le_refl _, Nat.le_refl _⟩ ?_
      exact ⟨by rw [show p.t.2.2.2 = k by omega, iI_o], _, _, _, rfl⟩
    · refine Z_aload_n 16 rfl rfl rfl ?_
      refine Z_iload_n 17 rfl rfl rfl ?_
      refine Z_callVbp (M' := M_C_hasJoin) 18 isC rfl l_C_202 C_C_hasJoin (c_C_hasJoin l p rj s w g q q2 sm co h k (by omega)) (emC ..) (Or.inl ⟨_, _, _, _, rfl, rfl⟩) rfl rfl rfl (Nat.le_of_ble_eq_true rfl) ⟨rfl, rfl, Nat.le_of_ble_eq_true rfl, Nat.le_of_ble_eq_true rfl⟩ ⟨Nat.zero_le _, Nat.zero_le _⟩ ?_
      refine Z_ifb_eq 19 rfl (tgt := 49) rfl (fun c31 => ?_) (fun c31 => ?_)
      · refine Z_iinc 31 rfl rfl (Nat.le_of_ble_eq_true rfl) (lv' := [(3, .int _), (0, .ref _), (1, .int _), (2, .int _)]) rfl ?_
        refine Z_goto 32 rfl (tgt := 15) rfl ?_
        refine Z_pick [0, 1, 2, 3] (lv' := [(0, .ref _), (1, .int _), (2, .int _), (3, .int _)]) rfl ?_
        have hz := fun ss qq qq2 => ih (k + 1) ss qq qq2 (by omega) (by omega) (by omega)
        first | (rw [e, cif_t ⟨c31, by omega⟩] at hz; exact hz _ _ _) | (rw [e, cif_f (fun z => c31 z.1)] at hz; exact hz _ _ _) | (rw [e, cif_f (fun z => by have := z.2; omega)] at hz; exact hz _ _ _)
      · refine Z_aload_n 20 rfl rfl rfl ?_
        refine Z_iload_n 21 rfl rfl rfl ?_
        refine Z_callVi (M' := M_C_kindOfJoin) 22 isC rfl l_C_213 C_C_kindOfJoin (c_C_kindOfJoin l p rj s w g q q2 sm co h k c31) (emC ..) (Or.inl ⟨_, _, _, _, rfl, rfl⟩) rfl rfl rfl (Nat.le_of_ble_eq_true rfl) ⟨rfl, rfl, Nat.le_of_ble_eq_true rfl, Nat.le_of_ble_eq_true rfl⟩ ⟨Nat.zero_le _, Nat.zero_le _⟩ (fun out hq => ?_)
        obtain ⟨_, _, _, rfl⟩ := hq
        refine Z_mem (mgC ..) ?_
        refine Z_iload_n 23 rfl rfl rfl ?_
        refine Z_icmp_ne 24 rfl (tgt := 49) rfl (by omega) (by omega) (fun c40 => ?_) (fun c40 => ?_)
        · refine Z_iinc 31 rfl rfl (Nat.le_of_ble_eq_true rfl) (lv' := [(3, .int _), (0, .ref _), (1, .int _), (2, .int _)]) rfl ?_
          refine Z_goto 32 rfl (tgt := 15) rfl ?_
          refine Z_pick [0, 1, 2, 3] (lv' := [(0, .ref _), (1, .int _), (2, .int _), (3, .int _)]) rfl ?_
          have hz := fun ss qq qq2 => ih (k + 1) ss qq qq2 (by omega) (by omega) (by omega)
          first | (rw [e, cif_t ⟨c31, by omega⟩] at hz; exact hz _ _ _) | (rw [e, cif_f (fun z => c31 z.1)] at hz; exact hz _ _ _) | (rw [e, cif_f (fun z => by have := z.2; omega)] at hz; exact hz _ _ _)
        · refine Z_iload_n 25 rfl rfl rfl ?_
          refine Z_iconst 26 rfl ?_
          refine Z_iload_n 27 rfl rfl rfl ?_
          refine Z_ishl 28 rfl ?_
          refine Z_ior 29 rfl ?_
          refine Z_istore_n 30 rfl rfl (Nat.le_of_ble_eq_true rfl) (lv' := [(2, .int _), (0, .ref _), (1, .int _), (3, .int _)]) rfl ?_
          refine Z_iinc 31 rfl rfl (Nat.le_of_ble_eq_true rfl) (lv' := [(3, .int _), (2, .int _), (0, .ref _), (1, .int _)]) rfl ?_
          refine Z_goto 32 rfl (tgt := 15) rfl ?_
          refine Z_pick [0, 1, 2, 3] (lv' := [(0, .ref _), (1, .int _), (2, .int _), (3, .int _)]) rfl ?_
          have hz := fun ss qq qq2 => ih (k + 1) ss qq qq2 (by omega) (by omega) (by omega)
          first | (rw [e, cif_t ⟨c31, by omega⟩] at hz; exact hz _ _ _) | (rw [e, cif_f (fun z => c31 z.1)] at hz; exact hz _ _ _) | (rw [e, cif_f (fun z => by have := z.2; omega)] at hz; exact hz _ _ _)
theorem c_C_joins (h : PV p) (what : Int) (hw : inI what) : Con l M_C_joins R_C_joins 0 0 false [.ref 0, .int (iI what)] (eC p rj s w g q q2 sm co) (zAi (joinsF p.t what) (fun m => ∃ s' q' q2', m = eC p rj s' w g q' q2' sm co)) := by
  have h1 := h.1.1.1
  refine Con.of_Z (by decide) D_C_joins (Nat.le_of_ble_eq_true rfl) ?_
  refine Z_iload_n 0 rfl rfl rfl ?_
  refine Z_if_lt 1 rfl (tgt := 9) rfl (by omega) (fun c1 => ?_) (fun c1 => ?_)
  · refine Z_iconst 5 rfl ?_
    refine Z_iret 6 rfl rfl ⟨Nat.le_refl _, Nat.le_refl _⟩ ?_
    exact ⟨by unfold joinsF; (repeat (first | rw [cif_t (by first | assumption | omega)] | rw [cif_f (by first | assumption | omega)])), _, _, _, rfl⟩
  · refine Z_iload_n 2 rfl rfl rfl ?_
    refine Z_iconst 3 rfl ?_
    refine Z_icmp_le 4 rfl (tgt := 11) rfl (by omega) (by omega) (fun c6 => ?_) (fun c6 => ?_)
    · refine Z_iconst 7 rfl ?_
      refine Z_istore_n 8 rfl rfl (Nat.le_of_ble_eq_true rfl) (lv' := [(2, .int _), (0, .ref _), (1, .int _)]) rfl ?_
      refine Z_iconst 9 rfl ?_
      refine Z_istore_n 10 rfl rfl (Nat.le_of_ble_eq_true rfl) (lv' := [(3, .int _), (2, .int _), (0, .ref _), (1, .int _)]) rfl ?_
      refine Z_pick [0, 1, 2, 3] (lv' := [(0, .ref _), (1, .int _), (2, .int _), (3, .int _)]) rfl ?_
      unfold joinsF
      rw [cif_t (by omega)]
      exact lp_C_joins l p rj w g sm co h what (by omega) 13 0 s q q2 (by omega) (by omega) (by omega)
    · refine Z_iconst 5 rfl ?_
      refine Z_iret 6 rfl rfl ⟨Nat.le_refl _, Nat.le_refl _⟩ ?_
      exact ⟨by unfold joinsF; (repeat (first | rw [cif_t (by first | assumption | omega)] | rw [cif_f (by first | assumption | omega)])), _, _, _, rfl⟩
end C7
