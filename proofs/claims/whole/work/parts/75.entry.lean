/-! the law: its entry -/
theorem aI_x {n : Nat} {F G : Int → Int} (h : ∀ j : Nat, F (j : Int) = G (j : Int)) : aI n F = aI n G := by
  unfold aI
  congr 2
  funext j
  rw [h j]
theorem row_num : aI 6 (uI (uI (uI (uI (uI (uI zeF 0 100) 1 1) 2 1) 3 10) 4 1) 5 100) = aI 6 (cpI fiF zeF 6) := aI_x (fun j => by
  rcases Nat.lt_or_ge j 6 with z | z
  · have key : ∀ k : Nat, k < 6 → (uI (uI (uI (uI (uI (uI zeF 0 100) 1 1) 2 1) 3 10) 4 1) 5 100) (k : Int) = (cpI fiF zeF 6) (k : Int) := by decide +kernel
    exact key j z
  · rw [uI_n _ _ (by omega), uI_n _ _ (by omega), uI_n _ _ (by omega), uI_n _ _ (by omega), uI_n _ _ (by omega), uI_n _ _ (by omega)]
    show (0 : Int) = cpI fiF zeF 6 (j : Int)
    unfold cpI
    rw [if_neg (by omega)]
    rfl)
theorem row_lea : aI 6 (uI (uI (uI (uI (uI (uI zeF 0 1) 1 1) 2 0) 3 0) 4 0) 5 1) = aI 6 leF := aI_x (fun j => by
  rcases Nat.lt_or_ge j 6 with z | z
  · have key : ∀ k : Nat, k < 6 → (uI (uI (uI (uI (uI (uI zeF 0 1) 1 1) 2 0) 3 0) 4 0) 5 1) (k : Int) = leF (k : Int) := by decide +kernel
    exact key j z
  · rw [uI_n _ _ (by omega), uI_n _ _ (by omega), uI_n _ _ (by omega), uI_n _ _ (by omega), uI_n _ _ (by omega), uI_n _ _ (by omega)]
    show (0 : Int) = leF (j : Int)
    unfold leF
    rw [if_neg (by omega), if_neg (by omega), if_neg (by omega)])
theorem row_mos : aI 6 (uI (uI (uI (uI (uI (uI zeF 0 999) 1 20) 2 99) 3 9999) 4 30) 5 1000) = aI 6 moM := aI_x (fun j => by
  rcases Nat.lt_or_ge j 6 with z | z
  · have key : ∀ k : Nat, k < 6 → (uI (uI (uI (uI (uI (uI zeF 0 999) 1 20) 2 99) 3 9999) 4 30) 5 1000) (k : Int) = moM (k : Int) := by decide +kernel
    exact key j z
  · rw [uI_n _ _ (by omega), uI_n _ _ (by omega), uI_n _ _ (by omega), uI_n _ _ (by omega), uI_n _ _ (by omega), uI_n _ _ (by omega)]
    show (0 : Int) = moM (j : Int)
    unfold moM
    rw [if_neg (by omega), if_neg (by omega), if_neg (by omega), if_neg (by omega), if_neg (by omega), if_neg (by omega)])
theorem row_wor : aI 42 (uI (uI (uI (uI (uI (uI (uI (uI (uI (uI (uI (uI (uI (uI (uI (uI (uI (uI (uI (uI (uI (uI (uI (uI (uI (uI (uI (uI (uI (uI (uI (uI (uI (uI (uI (uI (uI (uI (uI (uI (uI (uI zeF 0 100) 1 119) 2 101) 3 108) 4 108) 5 0) 6 0) 7 108) 8 105) 9 110) 10 101) 11 0) 12 0) 13 0) 14 115) 15 116) 16 97) 17 114) 18 116) 19 0) 20 0) 21 115) 22 116) 23 111) 24 112) 25 0) 26 0) 27 0) 28 99) 29 117) 30 98) 31 105) 32 99) 33 0) 34 0) 35 113) 36 117) 37 105) 38 110) 39 116) 40 105) 41 99) = aI 42 wdF := aI_x (fun j => by
  rcases Nat.lt_or_ge j 42 with z | z
  · have key : ∀ k : Nat, k < 42 → (uI (uI (uI (uI (uI (uI (uI (uI (uI (uI (uI (uI (uI (uI (uI (uI (uI (uI (uI (uI (uI (uI (uI (uI (uI (uI (uI (uI (uI (uI (uI (uI (uI (uI (uI (uI (uI (uI (uI (uI (uI (uI zeF 0 100) 1 119) 2 101) 3 108) 4 108) 5 0) 6 0) 7 108) 8 105) 9 110) 10 101) 11 0) 12 0) 13 0) 14 115) 15 116) 16 97) 17 114) 18 116) 19 0) 20 0) 21 115) 22 116) 23 111) 24 112) 25 0) 26 0) 27 0) 28 99) 29 117) 30 98) 31 105) 32 99) 33 0) 34 0) 35 113) 36 117) 37 105) 38 110) 39 116) 40 105) 41 99) (k : Int) = wdF (k : Int) := by decide +kernel
    exact key j z
  · rw [uI_n _ _ (by omega), uI_n _ _ (by omega), uI_n _ _ (by omega), uI_n _ _ (by omega), uI_n _ _ (by omega), uI_n _ _ (by omega), uI_n _ _ (by omega), uI_n _ _ (by omega), uI_n _ _ (by omega), uI_n _ _ (by omega), uI_n _ _ (by omega), uI_n _ _ (by omega), uI_n _ _ (by omega), uI_n _ _ (by omega), uI_n _ _ (by omega), uI_n _ _ (by omega), uI_n _ _ (by omega), uI_n _ _ (by omega), uI_n _ _ (by omega), uI_n _ _ (by omega), uI_n _ _ (by omega), uI_n _ _ (by omega), uI_n _ _ (by omega), uI_n _ _ (by omega), uI_n _ _ (by omega), uI_n _ _ (by omega), uI_n _ _ (by omega), uI_n _ _ (by omega), uI_n _ _ (by omega), uI_n _ _ (by omega), uI_n _ _ (by omega), uI_n _ _ (by omega), uI_n _ _ (by omega), uI_n _ _ (by omega), uI_n _ _ (by omega), uI_n _ _ (by omega), uI_n _ _ (by omega), uI_n _ _ (by omega), uI_n _ _ (by omega), uI_n _ _ (by omega), uI_n _ _ (by omega), uI_n _ _ (by omega)]
    show (0 : Int) = wdF (j : Int)
    unfold wdF stB
    rw [show wdL.getD ((j : Int) / 7).toNat [] = [] from by
      rw [List.getD_eq_getElem?_getD, List.getElem?_eq_none (show wdL.length ≤ ((j : Int) / 7).toNat by show 6 ≤ _; omega)]
      rfl]
    rfl)
def zT0 : TT := (zeF, zeF, zeF, 0)
def zTm : TT := (zeF, zeF, zeF, -1)
def zS0 : Int → Int := cpI fiF zeF 6
def zZ0 : Int → Int := uI (uI (uI (uI zeF 0 (-1)) 1 (-1)) 2 (-1)) 3 (-1)
def zP0 : PS := (zT0, zS0, zT0, zeF, 0, -5, zeF, 0, zeF, zZ0)
def zM0 : MP := (zT0, zS0, zeF, 0, -5, zeF, zZ0, zTm, zeF)
theorem zT0_TV : TV zT0 := ⟨⟨⟨Int.le_refl _, by show (0 : Int) ≤ 12; omega⟩, fun i => ⟨Int.le_refl _, by show (0 : Int) ≤ 5; omega⟩, fun i => ⟨Int.le_refl _, by show (0 : Int) ≤ 360; omega⟩, fun i => ⟨by show (-99 : Int) ≤ 0; omega, by show (0 : Int) ≤ 99; omega⟩⟩, by show sI zeF 0 ≤ 360; rw [sI_0]; omega, fun k k1 k2 => by have : k < 0 := k2; omega⟩
theorem zS0_SB : SB zS0 := by
  have h : ∀ i : Int, 0 ≤ i → i < 6 → zS0 i = fiF i := fun i i1 i2 => by unfold zS0 cpI; rw [if_pos (by omega)]
  unfold SB
  rw [h 0 (by omega) (by omega), h 1 (by omega) (by omega), h 2 (by omega) (by omega), h 3 (by omega) (by omega), h 4 (by omega) (by omega), h 5 (by omega) (by omega)]
  decide +kernel
theorem zZ0_v (i : Int) : zZ0 i = -1 ∨ zZ0 i = 0 := by
  unfold zZ0 uI zeF
  split
  · exact Or.inl rfl
  · split
    · exact Or.inl rfl
    · split
      · exact Or.inl rfl
      · split
        · exact Or.inl rfl
        · exact Or.inr rfl
theorem zZ0_ZB : ZB zZ0 := fun i => by have := zZ0_v i; omega
theorem zR0 : Rel zP0 zM0 := by
  have hI : ∀ i : Int, inL (zeF i) := fun i => ⟨by show (-9223372036854775808 : Int) ≤ 0; omega, by show (0 : Int) ≤ 9223372036854775807; omega⟩
  have hB : ∀ i : Int, 0 ≤ zeF i ∧ zeF i ≤ 127 := fun i => ⟨Int.le_refl _, by show (0 : Int) ≤ 127; omega⟩
  have hl : (-5 : Int) ≤ -5 ∧ (-5 : Int) ≤ 7 := by omega
  have ht : (0 : Int) ≤ 0 ∧ (0 : Int) ≤ 120 := by omega
  exact ⟨⟨zT0_TV, zS0_SB, zT0_TV, Or.inl rfl, hl, hB, ht, hI, zZ0_ZB⟩, ⟨zT0_TV, zS0_SB, Or.inl rfl, hl, hB, ht, hI, zZ0_ZB⟩, ⟨rfl, fun i _ _ => ⟨rfl, rfl, rfl⟩⟩, rfl, rfl, rfl, rfl, rfl, rfl, fun r j _ _ _ _ => rfl, Or.inl ⟨rfl, rfl, zT0_TV.1.2.1, zT0_TV.1.2.2.1, zT0_TV.1.2.2.2⟩⟩
def I_lwE : List (Nat × Instr × Nat × Nat) := [(0, .new 7, 3, 3), (3, .dup, 1, 4), (4, .invokespecial 9, 3, 7), (7, .astore_n 1, 1, 8), (8, .new 10, 3, 11), (11, .dup, 1, 12), (12, .invokespecial 12, 3, 15), (15, .astore_n 2, 1, 16), (16, .iconst 0, 1, 17), (17, .istore_n 3, 1, 18)]
theorem D_lwE : ∀ q ∈ I_lwE, decode code q.1 = .ok (q.2.1, q.2.2.1) ∧ q.1 + q.2.2.1 = q.2.2.2 := by decide +kernel
def eS0 (L : Nat) (F : Int → Int) : List zE := [aR L F, zT [("CamPieces", "LEAST_SETTINGS", "[I", .ref 2), ("CamPieces", "MOST_SETTINGS", "[I", .ref 3), ("CamPieces", "FIRST_SETTINGS", "[I", .ref 4), ("java/lang/String", "COMPACT_STRINGS", "Z", .int (iI 1))], aR 6 leF, aR 6 moF, aR 6 fiF, zS 0 11, zS 1 12, zS 2 13, zS 3 14, zS 4 15, zS 5 16, aB 5 (stB 0), aB 4 (stB 1), aB 5 (stB 2), aB 4 (stB 3), aB 5 (stB 4), aB 7 (stB 5), zU]
theorem lw_entry (l : Launch) (nm : String) (L : Nat) (F : Int → Int) (hL : L ≤ 3072) (hF : ∀ j, inI (F j)) : Z (XL l nm I_lwE) 0 0 (eS0 L F) 0 [(0, .ref 0)] [] := by
  refine Z_mem (mem' := [aR L F, zT [("CamPieces", "LEAST_SETTINGS", "[I", .ref 2), ("CamPieces", "MOST_SETTINGS", "[I", .ref 3), ("CamPieces", "FIRST_SETTINGS", "[I", .ref 4), ("java/lang/String", "COMPACT_STRINGS", "Z", .int (iI 1))], aR 6 leF, aR 6 moF, aR 6 fiF, zS 0 11, zS 1 12, zS 2 13, zS 3 14, zS 4 15, zS 5 16, aB 5 (stB 0), aB 4 (stB 1), aB 5 (stB 2), aB 4 (stB 3), aB 5 (stB 4), aB 7 (stB 5), zU]) rfl ?_
  refine Z_new 0 rfl rfl zck_7 n_L_7 b_ins_7 b_ini_7 (fs := [.null, .null, .null, .null, .int (iI 0), .null, .int (iI 0), .null, .null, .null, .null, .null, .null, .null, .null]) df_7 (fun _ => rfl) rfl rfl rfl ⟨Nat.le_of_ble_eq_true rfl, Nat.le_of_ble_eq_true rfl⟩ ?_
  refine Z_mem (mem' := [aR L F, zT [("CamPieces", "LEAST_SETTINGS", "[I", .ref 2), ("CamPieces", "MOST_SETTINGS", "[I", .ref 3), ("CamPieces", "FIRST_SETTINGS", "[I", .ref 4), ("java/lang/String", "COMPACT_STRINGS", "Z", .int (iI 1))], aR 6 leF, aR 6 moF, aR 6 fiF, zS 0 11, zS 1 12, zS 2 13, zS 3 14, zS 4 15, zS 5 16, aB 5 (stB 0), aB 4 (stB 1), aB 5 (stB 2), aB 4 (stB 3), aB 5 (stB 4), aB 7 (stB 5), zU, zO 7 [.null, .null, .null, .null, .int (iI 0), .null, .int (iI 0), .null, .null, .null, .null, .null, .null, .null, .null]]) rfl ?_
  refine Z_dup 1 rfl rfl ?_
  refine Z_callI (M' := M_C_init) 2 [18, 1, 2, 3, 4] rfl rfl (Or.inl l_L_9) C_C_init (c_C_init l) ⟨by decide, (zEL.c (Or.inl rfl) (zEL.c (Or.inl rfl) (zEL.c (Or.inl rfl) (zEL.c (Or.inl rfl) (zEL.c (Or.inl rfl) zEL.n)))))⟩ rfl (Nat.le_of_ble_eq_true rfl) ⟨rfl, rfl, Nat.le_of_ble_eq_true rfl, Nat.le_of_ble_eq_true rfl⟩ ⟨Nat.le_of_ble_eq_true rfl, Nat.le_of_ble_eq_true rfl⟩ rfl rfl rfl (fun r out hq => ?_)
  obtain ⟨rfl, rfl⟩ := hq
  refine ⟨rfl, rfl, ?_⟩
  refine Z_mem (mem' := [aR L F, zT [("CamPieces", "LEAST_SETTINGS", "[I", .ref 2), ("CamPieces", "MOST_SETTINGS", "[I", .ref 3), ("CamPieces", "FIRST_SETTINGS", "[I", .ref 4), ("java/lang/String", "COMPACT_STRINGS", "Z", .int (iI 1))], aR 6 leF, aR 6 moF, aR 6 fiF, zS 0 11, zS 1 12, zS 2 13, zS 3 14, zS 4 15, zS 5 16, aB 5 (stB 0), aB 4 (stB 1), aB 5 (stB 2), aB 4 (stB 3), aB 5 (stB 4), aB 7 (stB 5), zU, zO 7 [.ref 19, .ref 23, .ref 24, .ref 28, .int (iI 0), .ref 29, .int (iI (-5)), .ref 35, .ref 38, .ref 39, .ref 40, .ref 41, .ref 42, .ref 43, .ref 44], zO 5 [.ref 20, .ref 21, .ref 22, .int (iI 0)], aI 12 zeF, aI 12 zeF, aI 12 zeF, aI 6 (cpI fiF zeF 6), zO 5 [.ref 25, .ref 26, .ref 27, .int (iI 0)], aI 12 zeF, aI 12 zeF, aI 12 zeF, aI 6 zeF, zO 2 [.ref 30, .int (iI 0), .ref 31, .int (iI 0), .int (iI 0), .int (iI (-1)), .int (iI (-1)), .int (iI (-5))], aI 120 zeF, zO 5 [.ref 32, .ref 33, .ref 34, .int (iI 0)], aI 12 zeF, aI 12 zeF, aI 12 zeF, zO 3 [.ref 36, .ref 37], aL 120 zeF, aI 4 (uI (uI (uI (uI zeF 0 (-1)) 1 (-1)) 2 (-1)) 3 (-1)), zO 4 [.long (lI 1), .long (lI 0), .long (lI 0), .long (lI 0), .long (lI 0)], zO 6 [.int (iI 0), .int (iI 0), .int (iI 0), .int (iI 0), .int (iI 0), .int (iI 0)], zO 0 [.long (lI 0), .long (lI 0), .int (iI 0)], zO 1 [.long (lI 0), .long (lI 1)], zO 1 [.long (lI 0), .long (lI 1)], aL 361 zeF, aI 12 zeF]) rfl ?_
  refine Z_astore_n 3 rfl rfl (Nat.le_of_ble_eq_true rfl) (lv' := [(1, .ref _), (0, .ref _)]) rfl ?_
  refine Z_new 4 rfl rfl zck_8 n_L_10 b_ins_8 b_ini_8 (fs := [.int (iI 0), .null, .null, .null, .null, .null, .null, .int (iI 0), .int (iI 0), .long (lI 0), .long (lI 0), .long (lI 0), .long (lI 0), .long (lI 0), .long (lI 0), .null, .null, .null, .int (iI 0), .int (iI 0), .int (iI 0), .int (iI 0), .int (iI 0), .int (iI 0), .null, .null, .null, .null, .null, .null, .int (iI 0), .null, .null, .null, .null]) df_8 (fun _ => rfl) rfl rfl rfl ⟨Nat.le_of_ble_eq_true rfl, Nat.le_of_ble_eq_true rfl⟩ ?_
  refine Z_mem (mem' := [aR L F, zT [("CamPieces", "LEAST_SETTINGS", "[I", .ref 2), ("CamPieces", "MOST_SETTINGS", "[I", .ref 3), ("CamPieces", "FIRST_SETTINGS", "[I", .ref 4), ("java/lang/String", "COMPACT_STRINGS", "Z", .int (iI 1))], aR 6 leF, aR 6 moF, aR 6 fiF, zS 0 11, zS 1 12, zS 2 13, zS 3 14, zS 4 15, zS 5 16, aB 5 (stB 0), aB 4 (stB 1), aB 5 (stB 2), aB 4 (stB 3), aB 5 (stB 4), aB 7 (stB 5), zU, zO 7 [.ref 19, .ref 23, .ref 24, .ref 28, .int (iI 0), .ref 29, .int (iI (-5)), .ref 35, .ref 38, .ref 39, .ref 40, .ref 41, .ref 42, .ref 43, .ref 44], zO 5 [.ref 20, .ref 21, .ref 22, .int (iI 0)], aI 12 zeF, aI 12 zeF, aI 12 zeF, aI 6 (cpI fiF zeF 6), zO 5 [.ref 25, .ref 26, .ref 27, .int (iI 0)], aI 12 zeF, aI 12 zeF, aI 12 zeF, aI 6 zeF, zO 2 [.ref 30, .int (iI 0), .ref 31, .int (iI 0), .int (iI 0), .int (iI (-1)), .int (iI (-1)), .int (iI (-5))], aI 120 zeF, zO 5 [.ref 32, .ref 33, .ref 34, .int (iI 0)], aI 12 zeF, aI 12 zeF, aI 12 zeF, zO 3 [.ref 36, .ref 37], aL 120 zeF, aI 4 (uI (uI (uI (uI zeF 0 (-1)) 1 (-1)) 2 (-1)) 3 (-1)), zO 4 [.long (lI 1), .long (lI 0), .long (lI 0), .long (lI 0), .long (lI 0)], zO 6 [.int (iI 0), .int (iI 0), .int (iI 0), .int (iI 0), .int (iI 0), .int (iI 0)], zO 0 [.long (lI 0), .long (lI 0), .int (iI 0)], zO 1 [.long (lI 0), .long (lI 1)], zO 1 [.long (lI 0), .long (lI 1)], aL 361 zeF, aI 12 zeF, zO 8 [.int (iI 0), .null, .null, .null, .null, .null, .null, .int (iI 0), .int (iI 0), .long (lI 0), .long (lI 0), .long (lI 0), .long (lI 0), .long (lI 0), .long (lI 0), .null, .null, .null, .int (iI 0), .int (iI 0), .int (iI 0), .int (iI 0), .int (iI 0), .int (iI 0), .null, .null, .null, .null, .null, .null, .int (iI 0), .null, .null, .null, .null]]) rfl ?_
  refine Z_dup 5 rfl rfl ?_
  refine Z_callI (M' := M_M_init) 6 [45] rfl rfl (Or.inl l_L_12) C_M_init (c_M_init l) ⟨by decide, (zEL.c (Or.inl rfl) zEL.n)⟩ rfl (Nat.le_of_ble_eq_true rfl) ⟨rfl, rfl, Nat.le_of_ble_eq_true rfl, Nat.le_of_ble_eq_true rfl⟩ ⟨Nat.le_of_ble_eq_true rfl, Nat.le_of_ble_eq_true rfl⟩ rfl rfl rfl (fun r out hq => ?_)
  obtain ⟨rfl, rfl⟩ := hq
  refine ⟨rfl, rfl, ?_⟩
  refine Z_mem (mem' := [aR L F, zT [("CamPieces", "LEAST_SETTINGS", "[I", .ref 2), ("CamPieces", "MOST_SETTINGS", "[I", .ref 3), ("CamPieces", "FIRST_SETTINGS", "[I", .ref 4), ("java/lang/String", "COMPACT_STRINGS", "Z", .int (iI 1))], aR 6 leF, aR 6 moF, aR 6 fiF, zS 0 11, zS 1 12, zS 2 13, zS 3 14, zS 4 15, zS 5 16, aB 5 (stB 0), aB 4 (stB 1), aB 5 (stB 2), aB 4 (stB 3), aB 5 (stB 4), aB 7 (stB 5), zU, zO 7 [.ref 19, .ref 23, .ref 24, .ref 28, .int (iI 0), .ref 29, .int (iI (-5)), .ref 35, .ref 38, .ref 39, .ref 40, .ref 41, .ref 42, .ref 43, .ref 44], zO 5 [.ref 20, .ref 21, .ref 22, .int (iI 0)], aI 12 zeF, aI 12 zeF, aI 12 zeF, aI 6 (cpI fiF zeF 6), zO 5 [.ref 25, .ref 26, .ref 27, .int (iI 0)], aI 12 zeF, aI 12 zeF, aI 12 zeF, aI 6 zeF, zO 2 [.ref 30, .int (iI 0), .ref 31, .int (iI 0), .int (iI 0), .int (iI (-1)), .int (iI (-1)), .int (iI (-5))], aI 120 zeF, zO 5 [.ref 32, .ref 33, .ref 34, .int (iI 0)], aI 12 zeF, aI 12 zeF, aI 12 zeF, zO 3 [.ref 36, .ref 37], aL 120 zeF, aI 4 (uI (uI (uI (uI zeF 0 (-1)) 1 (-1)) 2 (-1)) 3 (-1)), zO 4 [.long (lI 1), .long (lI 0), .long (lI 0), .long (lI 0), .long (lI 0)], zO 6 [.int (iI 0), .int (iI 0), .int (iI 0), .int (iI 0), .int (iI 0), .int (iI 0)], zO 0 [.long (lI 0), .long (lI 0), .int (iI 0)], zO 1 [.long (lI 0), .long (lI 1)], zO 1 [.long (lI 0), .long (lI 1)], aL 361 zeF, aI 12 zeF, zO 8 [.int (iI 0), .ref 46, .ref 47, .ref 48, .ref 49, .ref 50, .ref 51, .int (iI 0), .int (iI 0), .long (lI 0), .long (lI 0), .long (lI 0), .long (lI 0), .long (lI 0), .long (lI 0), .ref 52, .ref 53, .ref 54, .int (iI 0), .int (iI 0), .int (iI 0), .int (iI 0), .int (iI (-5)), .int (iI 0), .ref 55, .ref 56, .ref 57, .ref 58, .ref 59, .ref 60, .int (iI (-1)), .ref 61, .ref 62, .ref 63, .ref 64], aI 13 zeF, aI 13 zeF, aI 13 zeF, aI 6 (uI (uI (uI (uI (uI (uI zeF 0 100) 1 1) 2 1) 3 10) 4 1) 5 100), aI 6 (uI (uI (uI (uI (uI (uI zeF 0 1) 1 1) 2 0) 3 0) 4 0) 5 1), aI 6 (uI (uI (uI (uI (uI (uI zeF 0 999) 1 20) 2 99) 3 9999) 4 30) 5 1000), aI 13 zeF, aL 361 zeF, aI 120 zeF, aI 120 zeF, aI 120 zeF, aI 120 zeF, aI 42 (uI (uI (uI (uI (uI (uI (uI (uI (uI (uI (uI (uI (uI (uI (uI (uI (uI (uI (uI (uI (uI (uI (uI (uI (uI (uI (uI (uI (uI (uI (uI (uI (uI (uI (uI (uI (uI (uI (uI (uI (uI (uI zeF 0 100) 1 119) 2 101) 3 108) 4 108) 5 0) 6 0) 7 108) 8 105) 9 110) 10 101) 11 0) 12 0) 13 0) 14 115) 15 116) 16 97) 17 114) 18 116) 19 0) 20 0) 21 115) 22 116) 23 111) 24 112) 25 0) 26 0) 27 0) 28 99) 29 117) 30 98) 31 105) 32 99) 33 0) 34 0) 35 113) 36 117) 37 105) 38 110) 39 116) 40 105) 41 99), aI 4 (uI (uI (uI (uI zeF 0 (-1)) 1 (-1)) 2 (-1)) 3 (-1)), aL 120 zeF, aI 12 zeF, aI 12 zeF, aI 12 zeF, aI 6 zeF]) rfl ?_
  refine Z_astore_n 7 rfl rfl (Nat.le_of_ble_eq_true rfl) (lv' := [(2, .ref _), (1, .ref _), (0, .ref _)]) rfl ?_
  refine Z_iconst 8 rfl ?_
  refine Z_istore_n 9 rfl rfl (Nat.le_of_ble_eq_true rfl) (lv' := [(3, .int _), (2, .ref _), (1, .ref _), (0, .ref _)]) rfl ?_
  refine Z_pick [0, 1, 2, 3] (lv' := [(0, .ref _), (1, .ref _), (2, .ref _), (3, .int _)]) rfl ?_
  rw [row_num, row_lea, row_mos, row_wor]
  exact Z_nilI (lw_loop l nm L F hL hF 3300 0 zP0 (zT0, 0, 0, -1, -1, -5) (1, 0, 0, 0, 0) (0, 0, 0, 0, 0, 0) (0, 0, 0) (0, 1) (0, 1) zeF zeF zM0 0 0 0 0 0 0 0 0 zeF zeF 0 0 0 (zeF, zeF, zeF, 0) (by omega) (by omega) (by omega) zR0 zT0_TV)
