/-! constructors -/
def zeF : Int → Int := fun _ => 0
theorem df_0 : ∀ j, j < 3 → defaultValue (tyX0 j) = vp_V [.long (lI 0), .long (lI 0), .int (iI 0)] j := by
  intro j hj
  rcases (show j = 0 ∨ j = 1 ∨ j = 2 by omega) with rfl | rfl | rfl <;> rfl
theorem df_1 : ∀ j, j < 2 → defaultValue (tyX1 j) = vp_V [.long (lI 0), .long (lI 0)] j := by
  intro j hj
  rcases (show j = 0 ∨ j = 1 by omega) with rfl | rfl <;> rfl
theorem df_2 : ∀ j, j < 8 → defaultValue (tyX2 j) = vp_V [.null, .int (iI 0), .null, .int (iI 0), .int (iI 0), .int (iI 0), .int (iI 0), .int (iI 0)] j := by
  intro j hj
  rcases (show j = 0 ∨ j = 1 ∨ j = 2 ∨ j = 3 ∨ j = 4 ∨ j = 5 ∨ j = 6 ∨ j = 7 by omega) with rfl | rfl | rfl | rfl | rfl | rfl | rfl | rfl <;> rfl
theorem df_3 : ∀ j, j < 2 → defaultValue (tyX3 j) = vp_V [.null, .null] j := by
  intro j hj
  rcases (show j = 0 ∨ j = 1 by omega) with rfl | rfl <;> rfl
theorem df_4 : ∀ j, j < 5 → defaultValue (tyX4 j) = vp_V [.long (lI 0), .long (lI 0), .long (lI 0), .long (lI 0), .long (lI 0)] j := by
  intro j hj
  rcases (show j = 0 ∨ j = 1 ∨ j = 2 ∨ j = 3 ∨ j = 4 by omega) with rfl | rfl | rfl | rfl | rfl <;> rfl
theorem df_5 : ∀ j, j < 4 → defaultValue (tyX5 j) = vp_V [.null, .null, .null, .int (iI 0)] j := by
  intro j hj
  rcases (show j = 0 ∨ j = 1 ∨ j = 2 ∨ j = 3 by omega) with rfl | rfl | rfl | rfl <;> rfl
theorem df_6 : ∀ j, j < 6 → defaultValue (tyX6 j) = vp_V [.int (iI 0), .int (iI 0), .int (iI 0), .int (iI 0), .int (iI 0), .int (iI 0)] j := by
  intro j hj
  rcases (show j = 0 ∨ j = 1 ∨ j = 2 ∨ j = 3 ∨ j = 4 ∨ j = 5 by omega) with rfl | rfl | rfl | rfl | rfl | rfl <;> rfl
theorem df_7 : ∀ j, j < 15 → defaultValue (tyX7 j) = vp_V [.null, .null, .null, .null, .int (iI 0), .null, .int (iI 0), .null, .null, .null, .null, .null, .null, .null, .null] j := by
  intro j hj
  rcases (show j = 0 ∨ j = 1 ∨ j = 2 ∨ j = 3 ∨ j = 4 ∨ j = 5 ∨ j = 6 ∨ j = 7 ∨ j = 8 ∨ j = 9 ∨ j = 10 ∨ j = 11 ∨ j = 12 ∨ j = 13 ∨ j = 14 by omega) with rfl | rfl | rfl | rfl | rfl | rfl | rfl | rfl | rfl | rfl | rfl | rfl | rfl | rfl | rfl <;> rfl
theorem df_8 : ∀ j, j < 35 → defaultValue (tyX8 j) = vp_V [.int (iI 0), .null, .null, .null, .null, .null, .null, .int (iI 0), .int (iI 0), .long (lI 0), .long (lI 0), .long (lI 0), .long (lI 0), .long (lI 0), .long (lI 0), .null, .null, .null, .int (iI 0), .int (iI 0), .int (iI 0), .int (iI 0), .int (iI 0), .int (iI 0), .null, .null, .null, .null, .null, .null, .int (iI 0), .null, .null, .null, .null] j := by
  intro j hj
  rcases (show j = 0 ∨ j = 1 ∨ j = 2 ∨ j = 3 ∨ j = 4 ∨ j = 5 ∨ j = 6 ∨ j = 7 ∨ j = 8 ∨ j = 9 ∨ j = 10 ∨ j = 11 ∨ j = 12 ∨ j = 13 ∨ j = 14 ∨ j = 15 ∨ j = 16 ∨ j = 17 ∨ j = 18 ∨ j = 19 ∨ j = 20 ∨ j = 21 ∨ j = 22 ∨ j = 23 ∨ j = 24 ∨ j = 25 ∨ j = 26 ∨ j = 27 ∨ j = 28 ∨ j = 29 ∨ j = 30 ∨ j = 31 ∨ j = 32 ∨ j = 33 ∨ j = 34 by omega) with rfl | rfl | rfl | rfl | rfl | rfl | rfl | rfl | rfl | rfl | rfl | rfl | rfl | rfl | rfl | rfl | rfl | rfl | rfl | rfl | rfl | rfl | rfl | rfl | rfl | rfl | rfl | rfl | rfl | rfl | rfl | rfl | rfl | rfl | rfl <;> rfl
theorem c_T_init (l : Launch) : Con l M_T_init R_T_init 3 36 true [.ref 0] [zO 5 [.null, .null, .null, .int (iI 0)]] (zAv (fun m => m = [zO 5 [.ref 1, .ref 2, .ref 3, .int (iI 0)], aI 12 zeF, aI 12 zeF, aI 12 zeF])) := by
  refine Con.of_Z (by decide) D_T_init (Nat.le_of_ble_eq_true rfl) ?_
  refine Z_aload_n 0 rfl rfl rfl ?_
  refine Z_objI 1 rfl l_T_3 b_im_obj b_cd_obj (Nat.le_of_ble_eq_true rfl) (Nat.le_of_ble_eq_true rfl) ?_
  refine Z_aload_n 2 rfl rfl rfl ?_
  refine Z_bipush 3 rfl rfl ?_
  refine Z_newI 4 (N := 12) rfl rfl b_arI (Nat.le_of_ble_eq_true rfl) rfl rfl rfl ⟨Nat.le_of_ble_eq_true rfl, Nat.le_of_ble_eq_true rfl⟩ ?_
  refine Z_mem (mem' := [zO 5 [.null, .null, .null, .int (iI 0)], aI 12 zeF]) rfl ?_
  refine Z_putF (fty := .int) 5 rfl zck_5 (by decide) fl_T_9 rfl rfl rfl rfl (Nat.le_of_ble_eq_true rfl) (fun _ => ⟨rfl, rfl⟩) (fs' := []) (mem' := [zO 5 [.ref 1, .null, .null, .int (iI 0)], aI 12 zeF]) rfl ?_
  refine Z_aload_n 6 rfl rfl rfl ?_
  refine Z_bipush 7 rfl rfl ?_
  refine Z_newI 8 (N := 12) rfl rfl b_arI (Nat.le_of_ble_eq_true rfl) rfl rfl rfl ⟨Nat.le_of_ble_eq_true rfl, Nat.le_of_ble_eq_true rfl⟩ ?_
  refine Z_mem (mem' := [zO 5 [.ref 1, .null, .null, .int (iI 0)], aI 12 zeF, aI 12 zeF]) rfl ?_
  refine Z_putF (fty := .int) 9 rfl zck_5 (by decide) fl_T_15 rfl rfl rfl rfl (Nat.le_of_ble_eq_true rfl) (fun _ => ⟨rfl, rfl⟩) (fs' := []) (mem' := [zO 5 [.ref 1, .ref 2, .null, .int (iI 0)], aI 12 zeF, aI 12 zeF]) rfl ?_
  refine Z_aload_n 10 rfl rfl rfl ?_
  refine Z_bipush 11 rfl rfl ?_
  refine Z_newI 12 (N := 12) rfl rfl b_arI (Nat.le_of_ble_eq_true rfl) rfl rfl rfl ⟨Nat.le_of_ble_eq_true rfl, Nat.le_of_ble_eq_true rfl⟩ ?_
  refine Z_mem (mem' := [zO 5 [.ref 1, .ref 2, .null, .int (iI 0)], aI 12 zeF, aI 12 zeF, aI 12 zeF]) rfl ?_
  refine Z_putF (fty := .int) 13 rfl zck_5 (by decide) fl_T_18 rfl rfl rfl rfl (Nat.le_of_ble_eq_true rfl) (fun _ => ⟨rfl, rfl⟩) (fs' := []) (mem' := [zO 5 [.ref 1, .ref 2, .ref 3, .int (iI 0)], aI 12 zeF, aI 12 zeF, aI 12 zeF]) rfl ?_
  refine Z_aload_n 14 rfl rfl rfl ?_
  refine Z_iconst 15 rfl ?_
  refine Z_put 16 rfl f_T_21 rfl (Nat.le_of_ble_eq_true rfl) (fun _ => ⟨rfl, rfl⟩) (fs' := []) (mem' := [zO 5 [.ref 1, .ref 2, .ref 3, .int (iI 0)], aI 12 zeF, aI 12 zeF, aI 12 zeF]) rfl ?_
  refine Z_vret 17 rfl rfl ⟨Nat.le_of_ble_eq_true rfl, Nat.le_of_ble_eq_true rfl⟩ ?_
  exact ⟨rfl, rfl⟩
theorem c_R_init (l : Launch) : Con l M_R_init R_R_init 0 0 true [.ref 0] [zO 0 [.long (lI 0), .long (lI 0), .int (iI 0)]] (zAv (fun m => m = [zO 0 [.long (lI 0), .long (lI 0), .int (iI 0)]])) := by
  refine Con.of_Z (by decide) D_R_init (Nat.le_of_ble_eq_true rfl) ?_
  refine Z_aload_n 0 rfl rfl rfl ?_
  refine Z_objI 1 rfl l_R_3 b_im_obj b_cd_obj (Nat.le_of_ble_eq_true rfl) (Nat.le_of_ble_eq_true rfl) ?_
  refine Z_aload_n 2 rfl rfl rfl ?_
  refine Z_lconst 3 rfl ?_
  refine Z_put 4 rfl f_R_9 rfl (Nat.le_of_ble_eq_true rfl) (fun _ => ⟨rfl, rfl⟩) (fs' := []) (mem' := [zO 0 [.long (lI 0), .long (lI 0), .int (iI 0)]]) rfl ?_
  refine Z_aload_n 5 rfl rfl rfl ?_
  refine Z_lconst 6 rfl ?_
  refine Z_put 7 rfl f_R_15 rfl (Nat.le_of_ble_eq_true rfl) (fun _ => ⟨rfl, rfl⟩) (fs' := []) (mem' := [zO 0 [.long (lI 0), .long (lI 0), .int (iI 0)]]) rfl ?_
  refine Z_aload_n 8 rfl rfl rfl ?_
  refine Z_iconst 9 rfl ?_
  refine Z_put 10 rfl f_R_18 rfl (Nat.le_of_ble_eq_true rfl) (fun _ => ⟨rfl, rfl⟩) (fs' := []) (mem' := [zO 0 [.long (lI 0), .long (lI 0), .int (iI 0)]]) rfl ?_
  refine Z_vret 11 rfl rfl ⟨Nat.le_of_ble_eq_true rfl, Nat.le_of_ble_eq_true rfl⟩ ?_
  exact ⟨rfl, rfl⟩
theorem c_Q_init (l : Launch) : Con l M_Q_init R_Q_init 0 0 true [.ref 0] [zO 1 [.long (lI 0), .long (lI 0)]] (zAv (fun m => m = [zO 1 [.long (lI 0), .long (lI 1)]])) := by
  refine Con.of_Z (by decide) D_Q_init (Nat.le_of_ble_eq_true rfl) ?_
  refine Z_aload_n 0 rfl rfl rfl ?_
  refine Z_objI 1 rfl l_Q_1 b_im_obj b_cd_obj (Nat.le_of_ble_eq_true rfl) (Nat.le_of_ble_eq_true rfl) ?_
  refine Z_aload_n 2 rfl rfl rfl ?_
  refine Z_lconst 3 rfl ?_
  refine Z_put 4 rfl f_Q_7 rfl (Nat.le_of_ble_eq_true rfl) (fun _ => ⟨rfl, rfl⟩) (fs' := []) (mem' := [zO 1 [.long (lI 0), .long (lI 0)]]) rfl ?_
  refine Z_aload_n 5 rfl rfl rfl ?_
  refine Z_lconst 6 rfl ?_
  refine Z_put 7 rfl f_Q_13 rfl (Nat.le_of_ble_eq_true rfl) (fun _ => ⟨rfl, rfl⟩) (fs' := []) (mem' := [zO 1 [.long (lI 0), .long (lI 1)]]) rfl ?_
  refine Z_vret 8 rfl rfl ⟨Nat.le_of_ble_eq_true rfl, Nat.le_of_ble_eq_true rfl⟩ ?_
  exact ⟨rfl, rfl⟩
theorem c_S_init (l : Launch) : Con l M_S_init R_S_init 0 0 true [.ref 0] [zO 4 [.long (lI 0), .long (lI 0), .long (lI 0), .long (lI 0), .long (lI 0)]] (zAv (fun m => m = [zO 4 [.long (lI 1), .long (lI 0), .long (lI 0), .long (lI 0), .long (lI 0)]])) := by
  refine Con.of_Z (by decide) D_S_init (Nat.le_of_ble_eq_true rfl) ?_
  refine Z_aload_n 0 rfl rfl rfl ?_
  refine Z_objI 1 rfl l_S_3 b_im_obj b_cd_obj (Nat.le_of_ble_eq_true rfl) (Nat.le_of_ble_eq_true rfl) ?_
  refine Z_aload_n 2 rfl rfl rfl ?_
  refine Z_lconst 3 rfl ?_
  refine Z_put 4 rfl f_S_9 rfl (Nat.le_of_ble_eq_true rfl) (fun _ => ⟨rfl, rfl⟩) (fs' := []) (mem' := [zO 4 [.long (lI 1), .long (lI 0), .long (lI 0), .long (lI 0), .long (lI 0)]]) rfl ?_
  refine Z_aload_n 5 rfl rfl rfl ?_
  refine Z_lconst 6 rfl ?_
  refine Z_put 7 rfl f_S_15 rfl (Nat.le_of_ble_eq_true rfl) (fun _ => ⟨rfl, rfl⟩) (fs' := []) (mem' := [zO 4 [.long (lI 1), .long (lI 0), .long (lI 0), .long (lI 0), .long (lI 0)]]) rfl ?_
  refine Z_aload_n 8 rfl rfl rfl ?_
  refine Z_lconst 9 rfl ?_
  refine Z_put 10 rfl f_S_18 rfl (Nat.le_of_ble_eq_true rfl) (fun _ => ⟨rfl, rfl⟩) (fs' := []) (mem' := [zO 4 [.long (lI 1), .long (lI 0), .long (lI 0), .long (lI 0), .long (lI 0)]]) rfl ?_
  refine Z_aload_n 11 rfl rfl rfl ?_
  refine Z_lconst 12 rfl ?_
  refine Z_put 13 rfl f_S_21 rfl (Nat.le_of_ble_eq_true rfl) (fun _ => ⟨rfl, rfl⟩) (fs' := []) (mem' := [zO 4 [.long (lI 1), .long (lI 0), .long (lI 0), .long (lI 0), .long (lI 0)]]) rfl ?_
  refine Z_aload_n 14 rfl rfl rfl ?_
  refine Z_lconst 15 rfl ?_
  refine Z_put 16 rfl f_S_24 rfl (Nat.le_of_ble_eq_true rfl) (fun _ => ⟨rfl, rfl⟩) (fs' := []) (mem' := [zO 4 [.long (lI 1), .long (lI 0), .long (lI 0), .long (lI 0), .long (lI 0)]]) rfl ?_
  refine Z_vret 17 rfl rfl ⟨Nat.le_of_ble_eq_true rfl, Nat.le_of_ble_eq_true rfl⟩ ?_
  exact ⟨rfl, rfl⟩
theorem c_K_init (l : Launch) : Con l M_K_init R_K_init 0 0 true [.ref 0] [zO 6 [.int (iI 0), .int (iI 0), .int (iI 0), .int (iI 0), .int (iI 0), .int (iI 0)]] (zAv (fun m => m = [zO 6 [.int (iI 0), .int (iI 0), .int (iI 0), .int (iI 0), .int (iI 0), .int (iI 0)]])) := by
  refine Con.of_Z (by decide) D_K_init (Nat.le_of_ble_eq_true rfl) ?_
  refine Z_aload_n 0 rfl rfl rfl ?_
  refine Z_objI 1 rfl l_K_1 b_im_obj b_cd_obj (Nat.le_of_ble_eq_true rfl) (Nat.le_of_ble_eq_true rfl) ?_
  refine Z_aload_n 2 rfl rfl rfl ?_
  refine Z_iconst 3 rfl ?_
  refine Z_put 4 rfl f_K_7 rfl (Nat.le_of_ble_eq_true rfl) (fun _ => ⟨rfl, rfl⟩) (fs' := []) (mem' := [zO 6 [.int (iI 0), .int (iI 0), .int (iI 0), .int (iI 0), .int (iI 0), .int (iI 0)]]) rfl ?_
  refine Z_aload_n 5 rfl rfl rfl ?_
  refine Z_iconst 6 rfl ?_
  refine Z_put 7 rfl f_K_13 rfl (Nat.le_of_ble_eq_true rfl) (fun _ => ⟨rfl, rfl⟩) (fs' := []) (mem' := [zO 6 [.int (iI 0), .int (iI 0), .int (iI 0), .int (iI 0), .int (iI 0), .int (iI 0)]]) rfl ?_
  refine Z_aload_n 8 rfl rfl rfl ?_
  refine Z_iconst 9 rfl ?_
  refine Z_put 10 rfl f_K_16 rfl (Nat.le_of_ble_eq_true rfl) (fun _ => ⟨rfl, rfl⟩) (fs' := []) (mem' := [zO 6 [.int (iI 0), .int (iI 0), .int (iI 0), .int (iI 0), .int (iI 0), .int (iI 0)]]) rfl ?_
  refine Z_aload_n 11 rfl rfl rfl ?_
  refine Z_iconst 12 rfl ?_
  refine Z_put 13 rfl f_K_19 rfl (Nat.le_of_ble_eq_true rfl) (fun _ => ⟨rfl, rfl⟩) (fs' := []) (mem' := [zO 6 [.int (iI 0), .int (iI 0), .int (iI 0), .int (iI 0), .int (iI 0), .int (iI 0)]]) rfl ?_
  refine Z_aload_n 14 rfl rfl rfl ?_
  refine Z_iconst 15 rfl ?_
  refine Z_put 16 rfl f_K_22 rfl (Nat.le_of_ble_eq_true rfl) (fun _ => ⟨rfl, rfl⟩) (fs' := []) (mem' := [zO 6 [.int (iI 0), .int (iI 0), .int (iI 0), .int (iI 0), .int (iI 0), .int (iI 0)]]) rfl ?_
  refine Z_aload_n 17 rfl rfl rfl ?_
  refine Z_iconst 18 rfl ?_
  refine Z_put 19 rfl f_K_25 rfl (Nat.le_of_ble_eq_true rfl) (fun _ => ⟨rfl, rfl⟩) (fs' := []) (mem' := [zO 6 [.int (iI 0), .int (iI 0), .int (iI 0), .int (iI 0), .int (iI 0), .int (iI 0)]]) rfl ?_
  refine Z_vret 20 rfl rfl ⟨Nat.le_of_ble_eq_true rfl, Nat.le_of_ble_eq_true rfl⟩ ?_
  exact ⟨rfl, rfl⟩
theorem c_W_init (l : Launch) : Con l M_W_init R_W_init 2 124 true [.ref 0] [zO 3 [.null, .null]] (zAv (fun m => m = [zO 3 [.ref 1, .ref 2], aL 120 zeF, aI 4 (uI (uI (uI (uI zeF 0 (-1)) 1 (-1)) 2 (-1)) 3 (-1))])) := by
  refine Con.of_Z (by decide) D_W_init (Nat.le_of_ble_eq_true rfl) ?_
  refine Z_aload_n 0 rfl rfl rfl ?_
  refine Z_objI 1 rfl l_W_3 b_im_obj b_cd_obj (Nat.le_of_ble_eq_true rfl) (Nat.le_of_ble_eq_true rfl) ?_
  refine Z_aload_n 2 rfl rfl rfl ?_
  refine Z_bipush 3 rfl rfl ?_
  refine Z_newL 4 (N := 120) rfl rfl b_arL (Nat.le_of_ble_eq_true rfl) rfl rfl rfl ⟨Nat.le_of_ble_eq_true rfl, Nat.le_of_ble_eq_true rfl⟩ ?_
  refine Z_mem (mem' := [zO 3 [.null, .null], aL 120 zeF]) rfl ?_
  refine Z_putF (fty := .int) 5 rfl zck_3 (by decide) fl_W_9 rfl rfl rfl rfl (Nat.le_of_ble_eq_true rfl) (fun _ => ⟨rfl, rfl⟩) (fs' := []) (mem' := [zO 3 [.ref 1, .null], aL 120 zeF]) rfl ?_
  refine Z_aload_n 6 rfl rfl rfl ?_
  refine Z_iconst 7 rfl ?_
  refine Z_newI 8 (N := 4) rfl rfl b_arI (Nat.le_of_ble_eq_true rfl) rfl rfl rfl ⟨Nat.le_of_ble_eq_true rfl, Nat.le_of_ble_eq_true rfl⟩ ?_
  refine Z_mem (mem' := [zO 3 [.ref 1, .null], aL 120 zeF, aI 4 zeF]) rfl ?_
  refine Z_dup 9 rfl rfl ?_
  refine Z_iconst 10 rfl ?_
  refine Z_iconst 11 rfl ?_
  refine Z_ias 12 rfl rfl (by omega) (by decide) (mem' := [zO 3 [.ref 1, .null], aL 120 zeF, aI 4 (uI zeF 0 (-1))]) rfl ?_
  refine Z_dup 13 rfl rfl ?_
  refine Z_iconst 14 rfl ?_
  refine Z_iconst 15 rfl ?_
  refine Z_ias 16 rfl rfl (by omega) (by decide) (mem' := [zO 3 [.ref 1, .null], aL 120 zeF, aI 4 (uI (uI zeF 0 (-1)) 1 (-1))]) rfl ?_
  refine Z_dup 17 rfl rfl ?_
  refine Z_iconst 18 rfl ?_
  refine Z_iconst 19 rfl ?_
  refine Z_ias 20 rfl rfl (by omega) (by decide) (mem' := [zO 3 [.ref 1, .null], aL 120 zeF, aI 4 (uI (uI (uI zeF 0 (-1)) 1 (-1)) 2 (-1))]) rfl ?_
  refine Z_dup 21 rfl rfl ?_
  refine Z_iconst 22 rfl ?_
  refine Z_iconst 23 rfl ?_
  refine Z_ias 24 rfl rfl (by omega) (by decide) (mem' := [zO 3 [.ref 1, .null], aL 120 zeF, aI 4 (uI (uI (uI (uI zeF 0 (-1)) 1 (-1)) 2 (-1)) 3 (-1))]) rfl ?_
  refine Z_putF (fty := .int) 25 rfl zck_3 (by decide) fl_W_15 rfl rfl rfl rfl (Nat.le_of_ble_eq_true rfl) (fun _ => ⟨rfl, rfl⟩) (fs' := []) (mem' := [zO 3 [.ref 1, .ref 2], aL 120 zeF, aI 4 (uI (uI (uI (uI zeF 0 (-1)) 1 (-1)) 2 (-1)) 3 (-1))]) rfl ?_
  refine Z_vret 26 rfl rfl ⟨Nat.le_of_ble_eq_true rfl, Nat.le_of_ble_eq_true rfl⟩ ?_
  exact ⟨rfl, rfl⟩
theorem c_D_init (l : Launch) : Con l M_D_init R_D_init 5 160 true [.ref 0] [zO 2 [.null, .int (iI 0), .null, .int (iI 0), .int (iI 0), .int (iI 0), .int (iI 0), .int (iI 0)]] (zAv (fun m => m = [zO 2 [.ref 1, .int (iI 0), .ref 2, .int (iI 0), .int (iI 0), .int (iI (-1)), .int (iI (-1)), .int (iI (-5))], aI 120 zeF, zO 5 [.ref 3, .ref 4, .ref 5, .int (iI 0)], aI 12 zeF, aI 12 zeF, aI 12 zeF])) := by
  refine Con.of_Z (by decide) D_D_init (Nat.le_of_ble_eq_true rfl) ?_
  refine Z_aload_n 0 rfl rfl rfl ?_
  refine Z_objI 1 rfl l_D_3 b_im_obj b_cd_obj (Nat.le_of_ble_eq_true rfl) (Nat.le_of_ble_eq_true rfl) ?_
  refine Z_aload_n 2 rfl rfl rfl ?_
  refine Z_bipush 3 rfl rfl ?_
  refine Z_newI 4 (N := 120) rfl rfl b_arI (Nat.le_of_ble_eq_true rfl) rfl rfl rfl ⟨Nat.le_of_ble_eq_true rfl, Nat.le_of_ble_eq_true rfl⟩ ?_
  refine Z_mem (mem' := [zO 2 [.null, .int (iI 0), .null, .int (iI 0), .int (iI 0), .int (iI 0), .int (iI 0), .int (iI 0)], aI 120 zeF]) rfl ?_
  refine Z_putF (fty := .int) 5 rfl zck_2 (by decide) fl_D_9 rfl rfl rfl rfl (Nat.le_of_ble_eq_true rfl) (fun _ => ⟨rfl, rfl⟩) (fs' := []) (mem' := [zO 2 [.ref 1, .int (iI 0), .null, .int (iI 0), .int (iI 0), .int (iI 0), .int (iI 0), .int (iI 0)], aI 120 zeF]) rfl ?_
  refine Z_aload_n 6 rfl rfl rfl ?_
  refine Z_iconst 7 rfl ?_
  refine Z_put 8 rfl f_D_15 rfl (Nat.le_of_ble_eq_true rfl) (fun _ => ⟨rfl, rfl⟩) (fs' := []) (mem' := [zO 2 [.ref 1, .int (iI 0), .null, .int (iI 0), .int (iI 0), .int (iI 0), .int (iI 0), .int (iI 0)], aI 120 zeF]) rfl ?_
  refine Z_aload_n 9 rfl rfl rfl ?_
  refine Z_new 10 rfl rfl zck_5 n_D_19 b_ins_5 b_ini_5 (fs := [.null, .null, .null, .int (iI 0)]) df_5 (fun _ => rfl) rfl rfl rfl ⟨Nat.le_of_ble_eq_true rfl, Nat.le_of_ble_eq_true rfl⟩ ?_
  refine Z_mem (mem' := [zO 2 [.ref 1, .int (iI 0), .null, .int (iI 0), .int (iI 0), .int (iI 0), .int (iI 0), .int (iI 0)], aI 120 zeF, zO 5 [.null, .null, .null, .int (iI 0)]]) rfl ?_
  refine Z_dup 11 rfl rfl ?_
  refine Z_callI (M' := M_T_init) 12 [2] rfl rfl (Or.inr ⟨_, l_D_21⟩) C_T_init (c_T_init l) ⟨by decide, (zEL.c (Or.inl rfl) zEL.n)⟩ rfl (Nat.le_of_ble_eq_true rfl) ⟨rfl, rfl, Nat.le_of_ble_eq_true rfl, Nat.le_of_ble_eq_true rfl⟩ ⟨Nat.le_of_ble_eq_true rfl, Nat.le_of_ble_eq_true rfl⟩ rfl rfl rfl (fun r out hq => ?_)
  obtain ⟨rfl, rfl⟩ := hq
  refine ⟨rfl, rfl, ?_⟩
  refine Z_mem (mem' := [zO 2 [.ref 1, .int (iI 0), .null, .int (iI 0), .int (iI 0), .int (iI 0), .int (iI 0), .int (iI 0)], aI 120 zeF, zO 5 [.ref 3, .ref 4, .ref 5, .int (iI 0)], aI 12 zeF, aI 12 zeF, aI 12 zeF]) rfl ?_
  refine Z_putF (fty := .int) 13 rfl zck_2 (by decide) fl_D_22 rfl rfl rfl rfl (Nat.le_of_ble_eq_true rfl) (fun _ => ⟨rfl, rfl⟩) (fs' := []) (mem' := [zO 2 [.ref 1, .int (iI 0), .ref 2, .int (iI 0), .int (iI 0), .int (iI 0), .int (iI 0), .int (iI 0)], aI 120 zeF, zO 5 [.ref 3, .ref 4, .ref 5, .int (iI 0)], aI 12 zeF, aI 12 zeF, aI 12 zeF]) rfl ?_
  refine Z_aload_n 14 rfl rfl rfl ?_
  refine Z_iconst 15 rfl ?_
  refine Z_put 16 rfl f_D_26 rfl (Nat.le_of_ble_eq_true rfl) (fun _ => ⟨rfl, rfl⟩) (fs' := []) (mem' := [zO 2 [.ref 1, .int (iI 0), .ref 2, .int (iI 0), .int (iI 0), .int (iI 0), .int (iI 0), .int (iI 0)], aI 120 zeF, zO 5 [.ref 3, .ref 4, .ref 5, .int (iI 0)], aI 12 zeF, aI 12 zeF, aI 12 zeF]) rfl ?_
  refine Z_aload_n 17 rfl rfl rfl ?_
  refine Z_iconst 18 rfl ?_
  refine Z_put 19 rfl f_D_29 rfl (Nat.le_of_ble_eq_true rfl) (fun _ => ⟨rfl, rfl⟩) (fs' := []) (mem' := [zO 2 [.ref 1, .int (iI 0), .ref 2, .int (iI 0), .int (iI 0), .int (iI 0), .int (iI 0), .int (iI 0)], aI 120 zeF, zO 5 [.ref 3, .ref 4, .ref 5, .int (iI 0)], aI 12 zeF, aI 12 zeF, aI 12 zeF]) rfl ?_
  refine Z_aload_n 20 rfl rfl rfl ?_
  refine Z_iconst 21 rfl ?_
  refine Z_put 22 rfl f_D_32 rfl (Nat.le_of_ble_eq_true rfl) (fun _ => ⟨rfl, rfl⟩) (fs' := []) (mem' := [zO 2 [.ref 1, .int (iI 0), .ref 2, .int (iI 0), .int (iI 0), .int (iI (-1)), .int (iI 0), .int (iI 0)], aI 120 zeF, zO 5 [.ref 3, .ref 4, .ref 5, .int (iI 0)], aI 12 zeF, aI 12 zeF, aI 12 zeF]) rfl ?_
  refine Z_aload_n 23 rfl rfl rfl ?_
  refine Z_iconst 24 rfl ?_
  refine Z_put 25 rfl f_D_35 rfl (Nat.le_of_ble_eq_true rfl) (fun _ => ⟨rfl, rfl⟩) (fs' := []) (mem' := [zO 2 [.ref 1, .int (iI 0), .ref 2, .int (iI 0), .int (iI 0), .int (iI (-1)), .int (iI (-1)), .int (iI 0)], aI 120 zeF, zO 5 [.ref 3, .ref 4, .ref 5, .int (iI 0)], aI 12 zeF, aI 12 zeF, aI 12 zeF]) rfl ?_
  refine Z_aload_n 26 rfl rfl rfl ?_
  refine Z_bipush 27 rfl rfl ?_
  refine Z_put 28 rfl f_D_38 rfl (Nat.le_of_ble_eq_true rfl) (fun _ => ⟨rfl, rfl⟩) (fs' := []) (mem' := [zO 2 [.ref 1, .int (iI 0), .ref 2, .int (iI 0), .int (iI 0), .int (iI (-1)), .int (iI (-1)), .int (iI (-5))], aI 120 zeF, zO 5 [.ref 3, .ref 4, .ref 5, .int (iI 0)], aI 12 zeF, aI 12 zeF, aI 12 zeF]) rfl ?_
  refine Z_vret 29 rfl rfl ⟨Nat.le_of_ble_eq_true rfl, Nat.le_of_ble_eq_true rfl⟩ ?_
  exact ⟨rfl, rfl⟩
