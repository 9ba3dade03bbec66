/-! the law, case by case: 0 to 9 -/
section LC
variable (l : Launch) (nm : String) (L : Nat) (F : Int → Int) (i : Int) (p : PS) (rj : RJ) (s : SS) (w : WW) (g : RR) (q q2 : Int × Int) (sm co : Int → Int) (m : MP) (he fa li sl be ov av bl : Int) (kw sm2 : Int → Int) (ma mf mw : Int) (cj : TT)
def I_lw0 : List (Nat × Instr × Nat × Nat) := [(212, .aload_n 1, 1, 213), (213, .aload_n 0, 1, 214), (214, .iload_n 3, 1, 215), (215, .iconst 1, 1, 216), (216, .iadd, 1, 217), (217, .iaload, 1, 218), (218, .aload_n 0, 1, 219), (219, .iload_n 3, 1, 220), (220, .iconst 2, 1, 221), (221, .iadd, 1, 222), (222, .iaload, 1, 223), (223, .aload_n 0, 1, 224), (224, .iload_n 3, 1, 225), (225, .iconst 3, 1, 226), (226, .iadd, 1, 227), (227, .iaload, 1, 228), (228, .invokevirtual 13, 3, 231), (231, .aload_n 2, 1, 232), (232, .aload_n 0, 1, 233), (233, .iload_n 3, 1, 234), (234, .iconst 1, 1, 235), (235, .iadd, 1, 236), (236, .iaload, 1, 237), (237, .aload_n 0, 1, 238), (238, .iload_n 3, 1, 239), (239, .iconst 2, 1, 240), (240, .iadd, 1, 241), (241, .iaload, 1, 242), (242, .aload_n 0, 1, 243), (243, .iload_n 3, 1, 244), (244, .iconst 3, 1, 245), (245, .iadd, 1, 246), (246, .iaload, 1, 247), (247, .invokevirtual 17, 3, 250), (250, .if_icmp .eq 1083, 3, 253)]
theorem D_lw0 : ∀ q ∈ I_lw0, decode code q.1 = .ok (q.2.1, q.2.2.1) ∧ q.1 + q.2.2.1 = q.2.2.2 := by decide +kernel
theorem lw_c0 (hi : 0 ≤ i ∧ i + 6 ≤ (L : Int)) (hL : L ≤ 3072) (hF : ∀ j, inI (F j)) (hR : Rel p m) (hj : TV rj.1) (kk : KK l nm L F i) : Z (XL l nm I_lw0) 47 1946 (eL L F p rj s w g q q2 sm co m he fa li sl be ov av bl kw sm2 ma mf mw cj) 212 [(0, .ref 0), (1, .ref 18), (2, .ref 45), (3, .int (iI i))] [] := by
  have hA := hR.2.2.1
  have hT1 := hR.1.1
  have hT2 := hR.2.1.1
  have h0 := hT1.1.1.1
  have hS := hR.2.2.2.1
  refine Z_aload_n 0 rfl rfl rfl ?_
  refine Z_aload_n 1 rfl rfl rfl ?_
  refine Z_iload_n 2 rfl rfl rfl ?_
  refine Z_iconst 3 rfl ?_
  refine Z_iadd 4 rfl ?_
  refine Z_iaR 5 rfl rfl (by omega) (by omega) ?_
  refine Z_aload_n 6 rfl rfl rfl ?_
  refine Z_iload_n 7 rfl rfl rfl ?_
  refine Z_iconst 8 rfl ?_
  refine Z_iadd 9 rfl ?_
  refine Z_iaR 10 rfl rfl (by omega) (by omega) ?_
  refine Z_aload_n 11 rfl rfl rfl ?_
  refine Z_iload_n 12 rfl rfl rfl ?_
  refine Z_iconst 13 rfl ?_
  refine Z_iadd 14 rfl ?_
  refine Z_iaR 15 rfl rfl (by omega) (by omega) ?_
  refine Z_callVi (M' := M_C_piece) 16 isLC rfl l_L_13 C_C_piece (c_C_piece l p rj s w g q q2 sm co hR.1 (F (i + 1)) (F (i + 2)) (F (i + 3)) (hF _) (hF _) (hF _)) (emLC ..) (Or.inl ⟨_, _, _, _, rfl, rfl⟩) rfl rfl rfl (Nat.le_of_ble_eq_true rfl) ⟨rfl, rfl, Nat.le_of_ble_eq_true rfl, Nat.le_of_ble_eq_true rfl⟩ ⟨Nat.le_of_ble_eq_true rfl, Nat.le_of_ble_eq_true rfl⟩ (fun out hq => ?_)
  obtain rfl := hq
  refine Z_mem (mgLC ..) ?_
  refine Z_aload_n 17 rfl rfl rfl ?_
  refine Z_aload_n 18 rfl rfl rfl ?_
  refine Z_iload_n 19 rfl rfl rfl ?_
  refine Z_iconst 20 rfl ?_
  refine Z_iadd 21 rfl ?_
  refine Z_iaR 22 rfl rfl (by omega) (by omega) ?_
  refine Z_aload_n 23 rfl rfl rfl ?_
  refine Z_iload_n 24 rfl rfl rfl ?_
  refine Z_iconst 25 rfl ?_
  refine Z_iadd 26 rfl ?_
  refine Z_iaR 27 rfl rfl (by omega) (by omega) ?_
  refine Z_aload_n 28 rfl rfl rfl ?_
  refine Z_iload_n 29 rfl rfl rfl ?_
  refine Z_iconst 30 rfl ?_
  refine Z_iadd 31 rfl ?_
  refine Z_iaR 32 rfl rfl (by omega) (by omega) ?_
  refine Z_callVi (M' := M_M_piece) 33 isLM rfl l_L_17 C_M_piece (c_M_piece l m he fa li sl be ov av bl kw sm2 ma mf mw cj hR.2.1 (F (i + 1)) (F (i + 2)) (F (i + 3)) (hF _) (hF _) (hF _)) (emLM ..) (Or.inl ⟨_, _, _, _, rfl, rfl⟩) rfl rfl rfl (Nat.le_of_ble_eq_true rfl) ⟨rfl, rfl, Nat.le_of_ble_eq_true rfl, Nat.le_of_ble_eq_true rfl⟩ ⟨Nat.le_of_ble_eq_true rfl, Nat.le_of_ble_eq_true rfl⟩ (fun out hq => ?_)
  obtain rfl := hq
  refine Z_mem (mgLM ..) ?_
  refine Z_ci (Eq.symm ((pieceF_c hA h0 (F (i + 1)) (F (i + 2)) (F (i + 3))).1)) ?_
  refine Z_sameI 34 rfl (tgt := 1333) rfl ?_
  exact Z_nilI (kk _ _ _ _ _ _ _ _ _ _ _ _ _ _ _ _ _ _ _ _ _ _ _ _ (rel_t hR (pieceF_TV hT1 (F (i + 1)) (F (i + 2)) (F (i + 3))) (pieceF_TV hT2 (F (i + 1)) (F (i + 2)) (F (i + 3))) (pieceF_c hA h0 (F (i + 1)) (F (i + 2)) (F (i + 3))).2) hj)
def I_lw1 : List (Nat × Instr × Nat × Nat) := [(255, .aload_n 1, 1, 256), (256, .invokevirtual 18, 3, 259), (259, .aload_n 2, 1, 260), (260, .invokevirtual 22, 3, 263), (263, .if_icmp .eq 1070, 3, 266)]
theorem D_lw1 : ∀ q ∈ I_lw1, decode code q.1 = .ok (q.2.1, q.2.2.1) ∧ q.1 + q.2.2.1 = q.2.2.2 := by decide +kernel
theorem lw_c1 (hi : 0 ≤ i ∧ i + 6 ≤ (L : Int)) (hL : L ≤ 3072) (hF : ∀ j, inI (F j)) (hR : Rel p m) (hj : TV rj.1) (kk : KK l nm L F i) : Z (XL l nm I_lw1) 47 1946 (eL L F p rj s w g q q2 sm co m he fa li sl be ov av bl kw sm2 ma mf mw cj) 255 [(0, .ref 0), (1, .ref 18), (2, .ref 45), (3, .int (iI i))] [] := by
  have hA := hR.2.2.1
  have hT1 := hR.1.1
  have hT2 := hR.2.1.1
  have h0 := hT1.1.1.1
  have hS := hR.2.2.2.1
  refine Z_aload_n 0 rfl rfl rfl ?_
  refine Z_callVi (M' := M_C_drop) 1 isLC rfl l_L_18 C_C_drop (c_C_drop l p rj s w g q q2 sm co hR.1) (emLC ..) (Or.inl ⟨_, _, _, _, rfl, rfl⟩) rfl rfl rfl (Nat.le_of_ble_eq_true rfl) ⟨rfl, rfl, Nat.le_of_ble_eq_true rfl, Nat.le_of_ble_eq_true rfl⟩ ⟨Nat.le_of_ble_eq_true rfl, Nat.le_of_ble_eq_true rfl⟩ (fun out hq => ?_)
  obtain rfl := hq
  refine Z_mem (mgLC ..) ?_
  refine Z_aload_n 2 rfl rfl rfl ?_
  refine Z_callVi (M' := M_M_drop) 3 isLM rfl l_L_22 C_M_drop (c_M_drop l m he fa li sl be ov av bl kw sm2 ma mf mw cj hR.2.1) (emLM ..) (Or.inl ⟨_, _, _, _, rfl, rfl⟩) rfl rfl rfl (Nat.le_of_ble_eq_true rfl) ⟨rfl, rfl, Nat.le_of_ble_eq_true rfl, Nat.le_of_ble_eq_true rfl⟩ ⟨Nat.le_of_ble_eq_true rfl, Nat.le_of_ble_eq_true rfl⟩ (fun out hq => ?_)
  obtain rfl := hq
  refine Z_mem (mgLM ..) ?_
  refine Z_ci (Eq.symm ((dropF_c hA).1)) ?_
  refine Z_sameI 4 rfl (tgt := 1333) rfl ?_
  exact Z_nilI (kk _ _ _ _ _ _ _ _ _ _ _ _ _ _ _ _ _ _ _ _ _ _ _ _ (rel_t hR (dropF_TV hT1) (dropF_TV hT2) (dropF_c hA).2) hj)
def I_lw2 : List (Nat × Instr × Nat × Nat) := [(268, .aload_n 1, 1, 269), (269, .aload_n 0, 1, 270), (270, .iload_n 3, 1, 271), (271, .iconst 1, 1, 272), (272, .iadd, 1, 273), (273, .iaload, 1, 274), (274, .aload_n 0, 1, 275), (275, .iload_n 3, 1, 276), (276, .iconst 2, 1, 277), (277, .iadd, 1, 278), (278, .iaload, 1, 279), (279, .aload_n 0, 1, 280), (280, .iload_n 3, 1, 281), (281, .iconst 3, 1, 282), (282, .iadd, 1, 283), (283, .iaload, 1, 284), (284, .invokevirtual 23, 3, 287), (287, .aload_n 2, 1, 288), (288, .aload_n 0, 1, 289), (289, .iload_n 3, 1, 290), (290, .iconst 1, 1, 291), (291, .iadd, 1, 292), (292, .iaload, 1, 293), (293, .aload_n 0, 1, 294), (294, .iload_n 3, 1, 295), (295, .iconst 2, 1, 296), (296, .iadd, 1, 297), (297, .iaload, 1, 298), (298, .aload_n 0, 1, 299), (299, .iload_n 3, 1, 300), (300, .iconst 3, 1, 301), (301, .iadd, 1, 302), (302, .iaload, 1, 303), (303, .invokevirtual 26, 3, 306), (306, .if_icmp .eq 1027, 3, 309)]
theorem D_lw2 : ∀ q ∈ I_lw2, decode code q.1 = .ok (q.2.1, q.2.2.1) ∧ q.1 + q.2.2.1 = q.2.2.2 := by decide +kernel
theorem lw_c2 (hi : 0 ≤ i ∧ i + 6 ≤ (L : Int)) (hL : L ≤ 3072) (hF : ∀ j, inI (F j)) (hR : Rel p m) (hj : TV rj.1) (kk : KK l nm L F i) : Z (XL l nm I_lw2) 47 1946 (eL L F p rj s w g q q2 sm co m he fa li sl be ov av bl kw sm2 ma mf mw cj) 268 [(0, .ref 0), (1, .ref 18), (2, .ref 45), (3, .int (iI i))] [] := by
  have hA := hR.2.2.1
  have hT1 := hR.1.1
  have hT2 := hR.2.1.1
  have h0 := hT1.1.1.1
  have hS := hR.2.2.2.1
  refine Z_aload_n 0 rfl rfl rfl ?_
  refine Z_aload_n 1 rfl rfl rfl ?_
  refine Z_iload_n 2 rfl rfl rfl ?_
  refine Z_iconst 3 rfl ?_
  refine Z_iadd 4 rfl ?_
  refine Z_iaR 5 rfl rfl (by omega) (by omega) ?_
  refine Z_aload_n 6 rfl rfl rfl ?_
  refine Z_iload_n 7 rfl rfl rfl ?_
  refine Z_iconst 8 rfl ?_
  refine Z_iadd 9 rfl ?_
  refine Z_iaR 10 rfl rfl (by omega) (by omega) ?_
  refine Z_aload_n 11 rfl rfl rfl ?_
  refine Z_iload_n 12 rfl rfl rfl ?_
  refine Z_iconst 13 rfl ?_
  refine Z_iadd 14 rfl ?_
  refine Z_iaR 15 rfl rfl (by omega) (by omega) ?_
  refine Z_callVi (M' := M_C_put) 16 isLC rfl l_L_23 C_C_put (c_C_put l p rj s w g q q2 sm co hR.1 (F (i + 1)) (F (i + 2)) (F (i + 3)) (hF _) (hF _) (hF _)) (emLC ..) (Or.inl ⟨_, _, _, _, rfl, rfl⟩) rfl rfl rfl (Nat.le_of_ble_eq_true rfl) ⟨rfl, rfl, Nat.le_of_ble_eq_true rfl, Nat.le_of_ble_eq_true rfl⟩ ⟨Nat.le_of_ble_eq_true rfl, Nat.le_of_ble_eq_true rfl⟩ (fun out hq => ?_)
  obtain rfl := hq
  refine Z_mem (mgLC ..) ?_
  refine Z_aload_n 17 rfl rfl rfl ?_
  refine Z_aload_n 18 rfl rfl rfl ?_
  refine Z_iload_n 19 rfl rfl rfl ?_
  refine Z_iconst 20 rfl ?_
  refine Z_iadd 21 rfl ?_
  refine Z_iaR 22 rfl rfl (by omega) (by omega) ?_
  refine Z_aload_n 23 rfl rfl rfl ?_
  refine Z_iload_n 24 rfl rfl rfl ?_
  refine Z_iconst 25 rfl ?_
  refine Z_iadd 26 rfl ?_
  refine Z_iaR 27 rfl rfl (by omega) (by omega) ?_
  refine Z_aload_n 28 rfl rfl rfl ?_
  refine Z_iload_n 29 rfl rfl rfl ?_
  refine Z_iconst 30 rfl ?_
  refine Z_iadd 31 rfl ?_
  refine Z_iaR 32 rfl rfl (by omega) (by omega) ?_
  refine Z_callVi (M' := M_M_put) 33 isLM rfl l_L_26 C_M_put (c_M_put l m he fa li sl be ov av bl kw sm2 ma mf mw cj hR.2.1 (F (i + 1)) (F (i + 2)) (F (i + 3)) (hF _) (hF _) (hF _)) (emLM ..) (Or.inl ⟨_, _, _, _, rfl, rfl⟩) rfl rfl rfl (Nat.le_of_ble_eq_true rfl) ⟨rfl, rfl, Nat.le_of_ble_eq_true rfl, Nat.le_of_ble_eq_true rfl⟩ ⟨Nat.le_of_ble_eq_true rfl, Nat.le_of_ble_eq_true rfl⟩ (fun out hq => ?_)
  obtain rfl := hq
  refine Z_mem (mgLM ..) ?_
  refine Z_ci (Eq.symm ((putF_c hA (F (i + 1)) (F (i + 2)) (F (i + 3))).1)) ?_
  refine Z_sameI 34 rfl (tgt := 1333) rfl ?_
  exact Z_nilI (kk _ _ _ _ _ _ _ _ _ _ _ _ _ _ _ _ _ _ _ _ _ _ _ _ (rel_t hR (putF_TV hT1 (F (i + 1)) (F (i + 2)) (F (i + 3))) (putF_TV hT2 (F (i + 1)) (F (i + 2)) (F (i + 3))) (putF_c hA (F (i + 1)) (F (i + 2)) (F (i + 3))).2) hj)
def I_lw3 : List (Nat × Instr × Nat × Nat) := [(311, .aload_n 1, 1, 312), (312, .aload_n 0, 1, 313), (313, .iload_n 3, 1, 314), (314, .iconst 1, 1, 315), (315, .iadd, 1, 316), (316, .iaload, 1, 317), (317, .aload_n 0, 1, 318), (318, .iload_n 3, 1, 319), (319, .iconst 2, 1, 320), (320, .iadd, 1, 321), (321, .iaload, 1, 322), (322, .invokevirtual 27, 3, 325), (325, .aload_n 2, 1, 326), (326, .aload_n 0, 1, 327), (327, .iload_n 3, 1, 328), (328, .iconst 1, 1, 329), (329, .iadd, 1, 330), (330, .iaload, 1, 331), (331, .aload_n 0, 1, 332), (332, .iload_n 3, 1, 333), (333, .iconst 2, 1, 334), (334, .iadd, 1, 335), (335, .iaload, 1, 336), (336, .invokevirtual 31, 3, 339), (339, .if_icmp .eq 994, 3, 342)]
theorem D_lw3 : ∀ q ∈ I_lw3, decode code q.1 = .ok (q.2.1, q.2.2.1) ∧ q.1 + q.2.2.1 = q.2.2.2 := by decide +kernel
theorem lw_c3 (hi : 0 ≤ i ∧ i + 6 ≤ (L : Int)) (hL : L ≤ 3072) (hF : ∀ j, inI (F j)) (hR : Rel p m) (hj : TV rj.1) (kk : KK l nm L F i) : Z (XL l nm I_lw3) 47 1946 (eL L F p rj s w g q q2 sm co m he fa li sl be ov av bl kw sm2 ma mf mw cj) 311 [(0, .ref 0), (1, .ref 18), (2, .ref 45), (3, .int (iI i))] [] := by
  have hA := hR.2.2.1
  have hT1 := hR.1.1
  have hT2 := hR.2.1.1
  have h0 := hT1.1.1.1
  have hS := hR.2.2.2.1
  refine Z_aload_n 0 rfl rfl rfl ?_
  refine Z_aload_n 1 rfl rfl rfl ?_
  refine Z_iload_n 2 rfl rfl rfl ?_
  refine Z_iconst 3 rfl ?_
  refine Z_iadd 4 rfl ?_
  refine Z_iaR 5 rfl rfl (by omega) (by omega) ?_
  refine Z_aload_n 6 rfl rfl rfl ?_
  refine Z_iload_n 7 rfl rfl rfl ?_
  refine Z_iconst 8 rfl ?_
  refine Z_iadd 9 rfl ?_
  refine Z_iaR 10 rfl rfl (by omega) (by omega) ?_
  refine Z_callVi (M' := M_C_of) 11 isLC rfl l_L_27 C_C_of (c_C_of l p rj s w g q q2 sm co hR.1 (F (i + 1)) (F (i + 2)) (hF _) (hF _)) (emLC ..) (Or.inl ⟨_, _, _, _, rfl, rfl⟩) rfl rfl rfl (Nat.le_of_ble_eq_true rfl) ⟨rfl, rfl, Nat.le_of_ble_eq_true rfl, Nat.le_of_ble_eq_true rfl⟩ ⟨Nat.le_of_ble_eq_true rfl, Nat.le_of_ble_eq_true rfl⟩ (fun out hq => ?_)
  obtain rfl := hq
  refine Z_mem (mgLC ..) ?_
  refine Z_aload_n 12 rfl rfl rfl ?_
  refine Z_aload_n 13 rfl rfl rfl ?_
  refine Z_iload_n 14 rfl rfl rfl ?_
  refine Z_iconst 15 rfl ?_
  refine Z_iadd 16 rfl ?_
  refine Z_iaR 17 rfl rfl (by omega) (by omega) ?_
  refine Z_aload_n 18 rfl rfl rfl ?_
  refine Z_iload_n 19 rfl rfl rfl ?_
  refine Z_iconst 20 rfl ?_
  refine Z_iadd 21 rfl ?_
  refine Z_iaR 22 rfl rfl (by omega) (by omega) ?_
  refine Z_callVi (M' := M_M_of) 23 isLM rfl l_L_31 C_M_of (c_M_of l m he fa li sl be ov av bl kw sm2 ma mf mw cj hR.2.1 (F (i + 1)) (F (i + 2)) (hF _) (hF _)) (emLM ..) (Or.inl ⟨_, _, _, _, rfl, rfl⟩) rfl rfl rfl (Nat.le_of_ble_eq_true rfl) ⟨rfl, rfl, Nat.le_of_ble_eq_true rfl, Nat.le_of_ble_eq_true rfl⟩ ⟨Nat.le_of_ble_eq_true rfl, Nat.le_of_ble_eq_true rfl⟩ (fun out hq => ?_)
  obtain rfl := hq
  refine Z_mem (mgLM ..) ?_
  refine Z_ci (Eq.symm (ofF_c hA (F (i + 1)) (F (i + 2)))) ?_
  refine Z_sameI 24 rfl (tgt := 1333) rfl ?_
  exact Z_nilI (kk _ _ _ _ _ _ _ _ _ _ _ _ _ _ _ _ _ _ _ _ _ _ _ _ (hR) hj)
def I_lw4 : List (Nat × Instr × Nat × Nat) := [(344, .aload_n 1, 1, 345), (345, .aload_n 0, 1, 346), (346, .iload_n 3, 1, 347), (347, .iconst 1, 1, 348), (348, .iadd, 1, 349), (349, .iaload, 1, 350), (350, .aload_n 0, 1, 351), (351, .iload_n 3, 1, 352), (352, .iconst 2, 1, 353), (353, .iadd, 1, 354), (354, .iaload, 1, 355), (355, .invokevirtual 32, 3, 358), (358, .aload_n 2, 1, 359), (359, .aload_n 0, 1, 360), (360, .iload_n 3, 1, 361), (361, .iconst 1, 1, 362), (362, .iadd, 1, 363), (363, .iaload, 1, 364), (364, .aload_n 0, 1, 365), (365, .iload_n 3, 1, 366), (366, .iconst 2, 1, 367), (367, .iadd, 1, 368), (368, .iaload, 1, 369), (369, .invokevirtual 35, 3, 372), (372, .if_icmp .eq 961, 3, 375)]
theorem D_lw4 : ∀ q ∈ I_lw4, decode code q.1 = .ok (q.2.1, q.2.2.1) ∧ q.1 + q.2.2.1 = q.2.2.2 := by decide +kernel
theorem lw_c4 (hi : 0 ≤ i ∧ i + 6 ≤ (L : Int)) (hL : L ≤ 3072) (hF : ∀ j, inI (F j)) (hR : Rel p m) (hj : TV rj.1) (kk : KK l nm L F i) : Z (XL l nm I_lw4) 47 1946 (eL L F p rj s w g q q2 sm co m he fa li sl be ov av bl kw sm2 ma mf mw cj) 344 [(0, .ref 0), (1, .ref 18), (2, .ref 45), (3, .int (iI i))] [] := by
  have hA := hR.2.2.1
  have hT1 := hR.1.1
  have hT2 := hR.2.1.1
  have h0 := hT1.1.1.1
  have hS := hR.2.2.2.1
  refine Z_aload_n 0 rfl rfl rfl ?_
  refine Z_aload_n 1 rfl rfl rfl ?_
  refine Z_iload_n 2 rfl rfl rfl ?_
  refine Z_iconst 3 rfl ?_
  refine Z_iadd 4 rfl ?_
  refine Z_iaR 5 rfl rfl (by omega) (by omega) ?_
  refine Z_aload_n 6 rfl rfl rfl ?_
  refine Z_iload_n 7 rfl rfl rfl ?_
  refine Z_iconst 8 rfl ?_
  refine Z_iadd 9 rfl ?_
  refine Z_iaR 10 rfl rfl (by omega) (by omega) ?_
  refine Z_callVi (M' := M_C_tell) 11 isLC rfl l_L_32 C_C_tell (c_C_tell l p rj s w g q q2 sm co hR.1 (F (i + 1)) (F (i + 2)) (hF _) (hF _)) (emLC ..) (Or.inl ⟨_, _, _, _, rfl, rfl⟩) rfl rfl rfl (Nat.le_of_ble_eq_true rfl) ⟨rfl, rfl, Nat.le_of_ble_eq_true rfl, Nat.le_of_ble_eq_true rfl⟩ ⟨Nat.le_of_ble_eq_true rfl, Nat.le_of_ble_eq_true rfl⟩ (fun out hq => ?_)
  obtain rfl := hq
  refine Z_mem (mgLC ..) ?_
  refine Z_aload_n 12 rfl rfl rfl ?_
  refine Z_aload_n 13 rfl rfl rfl ?_
  refine Z_iload_n 14 rfl rfl rfl ?_
  refine Z_iconst 15 rfl ?_
  refine Z_iadd 16 rfl ?_
  refine Z_iaR 17 rfl rfl (by omega) (by omega) ?_
  refine Z_aload_n 18 rfl rfl rfl ?_
  refine Z_iload_n 19 rfl rfl rfl ?_
  refine Z_iconst 20 rfl ?_
  refine Z_iadd 21 rfl ?_
  refine Z_iaR 22 rfl rfl (by omega) (by omega) ?_
  refine Z_callVi (M' := M_M_tell) 23 isLM rfl l_L_35 C_M_tell (c_M_tell l m he fa li sl be ov av bl kw sm2 ma mf mw cj hR.2.1 (F (i + 1)) (F (i + 2)) (hF _) (hF _)) (emLM ..) (Or.inl ⟨_, _, _, _, rfl, rfl⟩) rfl rfl rfl (Nat.le_of_ble_eq_true rfl) ⟨rfl, rfl, Nat.le_of_ble_eq_true rfl, Nat.le_of_ble_eq_true rfl⟩ ⟨Nat.le_of_ble_eq_true rfl, Nat.le_of_ble_eq_true rfl⟩ (fun out hq => ?_)
  obtain rfl := hq
  refine Z_mem (mgLM ..) ?_
  refine Z_ci (Eq.symm ((rel_s hR (F (i + 1)) (F (i + 2))).1)) ?_
  refine Z_sameI 24 rfl (tgt := 1333) rfl ?_
  exact Z_nilI (kk _ _ _ _ _ _ _ _ _ _ _ _ _ _ _ _ _ _ _ _ _ _ _ _ ((rel_s hR (F (i + 1)) (F (i + 2))).2) hj)
def I_lw5 : List (Nat × Instr × Nat × Nat) := [(377, .aload_n 1, 1, 378), (378, .aload_n 0, 1, 379), (379, .iload_n 3, 1, 380), (380, .iconst 1, 1, 381), (381, .iadd, 1, 382), (382, .iaload, 1, 383), (383, .invokevirtual 36, 3, 386), (386, .aload_n 2, 1, 387), (387, .aload_n 0, 1, 388), (388, .iload_n 3, 1, 389), (389, .iconst 1, 1, 390), (390, .iadd, 1, 391), (391, .iaload, 1, 392), (392, .invokevirtual 40, 3, 395), (395, .if_icmp .eq 938, 3, 398)]
theorem D_lw5 : ∀ q ∈ I_lw5, decode code q.1 = .ok (q.2.1, q.2.2.1) ∧ q.1 + q.2.2.1 = q.2.2.2 := by decide +kernel
theorem lw_c5 (hi : 0 ≤ i ∧ i + 6 ≤ (L : Int)) (hL : L ≤ 3072) (hF : ∀ j, inI (F j)) (hR : Rel p m) (hj : TV rj.1) (kk : KK l nm L F i) : Z (XL l nm I_lw5) 47 1946 (eL L F p rj s w g q q2 sm co m he fa li sl be ov av bl kw sm2 ma mf mw cj) 377 [(0, .ref 0), (1, .ref 18), (2, .ref 45), (3, .int (iI i))] [] := by
  have hA := hR.2.2.1
  have hT1 := hR.1.1
  have hT2 := hR.2.1.1
  have h0 := hT1.1.1.1
  have hS := hR.2.2.2.1
  refine Z_aload_n 0 rfl rfl rfl ?_
  refine Z_aload_n 1 rfl rfl rfl ?_
  refine Z_iload_n 2 rfl rfl rfl ?_
  refine Z_iconst 3 rfl ?_
  refine Z_iadd 4 rfl ?_
  refine Z_iaR 5 rfl rfl (by omega) (by omega) ?_
  refine Z_callVi (M' := M_C_told) 6 isLC rfl l_L_36 C_C_told (c_C_told l p rj s w g q q2 sm co hR.1 (F (i + 1)) (hF _)) (emLC ..) (Or.inl ⟨_, _, _, _, rfl, rfl⟩) rfl rfl rfl (Nat.le_of_ble_eq_true rfl) ⟨rfl, rfl, Nat.le_of_ble_eq_true rfl, Nat.le_of_ble_eq_true rfl⟩ ⟨Nat.le_of_ble_eq_true rfl, Nat.le_of_ble_eq_true rfl⟩ (fun out hq => ?_)
  obtain rfl := hq
  refine Z_mem (mgLC ..) ?_
  refine Z_aload_n 7 rfl rfl rfl ?_
  refine Z_aload_n 8 rfl rfl rfl ?_
  refine Z_iload_n 9 rfl rfl rfl ?_
  refine Z_iconst 10 rfl ?_
  refine Z_iadd 11 rfl ?_
  refine Z_iaR 12 rfl rfl (by omega) (by omega) ?_
  refine Z_callVi (M' := M_M_told) 13 isLM rfl l_L_40 C_M_told (c_M_told l m he fa li sl be ov av bl kw sm2 ma mf mw cj hR.2.1 (F (i + 1)) (hF _)) (emLM ..) (Or.inl ⟨_, _, _, _, rfl, rfl⟩) rfl rfl rfl (Nat.le_of_ble_eq_true rfl) ⟨rfl, rfl, Nat.le_of_ble_eq_true rfl, Nat.le_of_ble_eq_true rfl⟩ ⟨Nat.le_of_ble_eq_true rfl, Nat.le_of_ble_eq_true rfl⟩ (fun out hq => ?_)
  obtain rfl := hq
  refine Z_mem (mgLM ..) ?_
  refine Z_ci (Eq.symm ((toldF_c hA p.s p.ts (F (i + 1))).trans (by rw [hR.2.2.2.1, hR.2.2.2.2.2.2.1]))) ?_
  refine Z_sameI 14 rfl (tgt := 1333) rfl ?_
  exact Z_nilI (kk _ _ _ _ _ _ _ _ _ _ _ _ _ _ _ _ _ _ _ _ _ _ _ _ (hR) hj)
def I_lw6 : List (Nat × Instr × Nat × Nat) := [(400, .aload_n 1, 1, 401), (401, .invokevirtual 41, 3, 404), (404, .aload_n 2, 1, 405), (405, .invokevirtual 44, 3, 408), (408, .if_icmp .eq 925, 3, 411)]
theorem D_lw6 : ∀ q ∈ I_lw6, decode code q.1 = .ok (q.2.1, q.2.2.1) ∧ q.1 + q.2.2.1 = q.2.2.2 := by decide +kernel
theorem lw_c6 (hi : 0 ≤ i ∧ i + 6 ≤ (L : Int)) (hL : L ≤ 3072) (hF : ∀ j, inI (F j)) (hR : Rel p m) (hj : TV rj.1) (kk : KK l nm L F i) : Z (XL l nm I_lw6) 47 1946 (eL L F p rj s w g q q2 sm co m he fa li sl be ov av bl kw sm2 ma mf mw cj) 400 [(0, .ref 0), (1, .ref 18), (2, .ref 45), (3, .int (iI i))] [] := by
  have hA := hR.2.2.1
  have hT1 := hR.1.1
  have hT2 := hR.2.1.1
  have h0 := hT1.1.1.1
  have hS := hR.2.2.2.1
  refine Z_aload_n 0 rfl rfl rfl ?_
  refine Z_callVi (M' := M_C_mirror) 1 isLC rfl l_L_41 C_C_mirror (c_C_mirror l p rj s w g q q2 sm co hR.1) (emLC ..) (Or.inl ⟨_, _, _, _, rfl, rfl⟩) rfl rfl rfl (Nat.le_of_ble_eq_true rfl) ⟨rfl, rfl, Nat.le_of_ble_eq_true rfl, Nat.le_of_ble_eq_true rfl⟩ ⟨Nat.le_of_ble_eq_true rfl, Nat.le_of_ble_eq_true rfl⟩ (fun out hq => ?_)
  obtain rfl := hq
  refine Z_mem (mgLC ..) ?_
  refine Z_aload_n 2 rfl rfl rfl ?_
  refine Z_callVi (M' := M_M_mirror) 3 isLM rfl l_L_44 C_M_mirror (c_M_mirror l m he fa li sl be ov av bl kw sm2 ma mf mw cj hR.2.1) (emLM ..) (Or.inl ⟨_, _, _, _, rfl, rfl⟩) rfl rfl rfl (Nat.le_of_ble_eq_true rfl) ⟨rfl, rfl, Nat.le_of_ble_eq_true rfl, Nat.le_of_ble_eq_true rfl⟩ ⟨Nat.le_of_ble_eq_true rfl, Nat.le_of_ble_eq_true rfl⟩ (fun out hq => ?_)
  obtain rfl := hq
  refine Z_mem (mgLM ..) ?_
  refine Z_ci (Eq.symm (Ag_tt (Ag_mir hA))) ?_
  refine Z_sameI 4 rfl (tgt := 1333) rfl ?_
  exact Z_nilI (kk _ _ _ _ _ _ _ _ _ _ _ _ _ _ _ _ _ _ _ _ _ _ _ _ (rel_t hR (TV_mir hT1) (TV_mir hT2) (Ag_mir hA)) hj)
def I_lw7 : List (Nat × Instr × Nat × Nat) := [(413, .aload_n 1, 1, 414), (414, .aload_n 0, 1, 415), (415, .iload_n 3, 1, 416), (416, .iconst 1, 1, 417), (417, .iadd, 1, 418), (418, .iaload, 1, 419), (419, .invokevirtual 45, 3, 422), (422, .aload_n 2, 1, 423), (423, .aload_n 0, 1, 424), (424, .iload_n 3, 1, 425), (425, .iconst 1, 1, 426), (426, .iadd, 1, 427), (427, .iaload, 1, 428), (428, .invokevirtual 48, 3, 431), (431, .if_icmp .eq 902, 3, 434)]
theorem D_lw7 : ∀ q ∈ I_lw7, decode code q.1 = .ok (q.2.1, q.2.2.1) ∧ q.1 + q.2.2.1 = q.2.2.2 := by decide +kernel
theorem lw_c7 (hi : 0 ≤ i ∧ i + 6 ≤ (L : Int)) (hL : L ≤ 3072) (hF : ∀ j, inI (F j)) (hR : Rel p m) (hj : TV rj.1) (kk : KK l nm L F i) : Z (XL l nm I_lw7) 47 1946 (eL L F p rj s w g q q2 sm co m he fa li sl be ov av bl kw sm2 ma mf mw cj) 413 [(0, .ref 0), (1, .ref 18), (2, .ref 45), (3, .int (iI i))] [] := by
  have hA := hR.2.2.1
  have hT1 := hR.1.1
  have hT2 := hR.2.1.1
  have h0 := hT1.1.1.1
  have hS := hR.2.2.2.1
  refine Z_aload_n 0 rfl rfl rfl ?_
  refine Z_aload_n 1 rfl rfl rfl ?_
  refine Z_iload_n 2 rfl rfl rfl ?_
  refine Z_iconst 3 rfl ?_
  refine Z_iadd 4 rfl ?_
  refine Z_iaR 5 rfl rfl (by omega) (by omega) ?_
  refine Z_callVi (M' := M_C_alike) 6 isLC rfl l_L_45 C_C_alike (c_C_alike l p rj s w g q q2 sm co hR.1 (F (i + 1)) (hF _)) (emLC ..) (Or.inl ⟨_, _, _, _, rfl, rfl⟩) rfl rfl rfl (Nat.le_of_ble_eq_true rfl) ⟨rfl, rfl, Nat.le_of_ble_eq_true rfl, Nat.le_of_ble_eq_true rfl⟩ ⟨Nat.le_of_ble_eq_true rfl, Nat.le_of_ble_eq_true rfl⟩ (fun out hq => ?_)
  obtain rfl := hq
  refine Z_mem (mgLC ..) ?_
  refine Z_aload_n 7 rfl rfl rfl ?_
  refine Z_aload_n 8 rfl rfl rfl ?_
  refine Z_iload_n 9 rfl rfl rfl ?_
  refine Z_iconst 10 rfl ?_
  refine Z_iadd 11 rfl ?_
  refine Z_iaR 12 rfl rfl (by omega) (by omega) ?_
  refine Z_callVi (M' := M_M_alike) 13 isLM rfl l_L_48 C_M_alike (c_M_alike l m he fa li sl be ov av bl kw sm2 ma mf mw cj hR.2.1 (F (i + 1)) (hF _)) (emLM ..) (Or.inl ⟨_, _, _, _, rfl, rfl⟩) rfl rfl rfl (Nat.le_of_ble_eq_true rfl) ⟨rfl, rfl, Nat.le_of_ble_eq_true rfl, Nat.le_of_ble_eq_true rfl⟩ ⟨Nat.le_of_ble_eq_true rfl, Nat.le_of_ble_eq_true rfl⟩ (fun out hq => ?_)
  obtain rfl := hq
  refine Z_mem (mgLM ..) ?_
  refine Z_ci (Eq.symm (alikeF_c hA (F (i + 1)))) ?_
  refine Z_sameI 14 rfl (tgt := 1333) rfl ?_
  exact Z_nilI (kk _ _ _ _ _ _ _ _ _ _ _ _ _ _ _ _ _ _ _ _ _ _ _ _ (hR) hj)
def I_lw8 : List (Nat × Instr × Nat × Nat) := [(436, .aload_n 1, 1, 437), (437, .aload_n 0, 1, 438), (438, .iload_n 3, 1, 439), (439, .iconst 1, 1, 440), (440, .iadd, 1, 441), (441, .iaload, 1, 442), (442, .invokevirtual 49, 3, 445), (445, .aload_n 2, 1, 446), (446, .aload_n 0, 1, 447), (447, .iload_n 3, 1, 448), (448, .iconst 1, 1, 449), (449, .iadd, 1, 450), (450, .iaload, 1, 451), (451, .invokevirtual 52, 3, 454), (454, .if_icmp .eq 879, 3, 457)]
theorem D_lw8 : ∀ q ∈ I_lw8, decode code q.1 = .ok (q.2.1, q.2.2.1) ∧ q.1 + q.2.2.1 = q.2.2.2 := by decide +kernel
theorem lw_c8 (hi : 0 ≤ i ∧ i + 6 ≤ (L : Int)) (hL : L ≤ 3072) (hF : ∀ j, inI (F j)) (hR : Rel p m) (hj : TV rj.1) (kk : KK l nm L F i) : Z (XL l nm I_lw8) 47 1946 (eL L F p rj s w g q q2 sm co m he fa li sl be ov av bl kw sm2 ma mf mw cj) 436 [(0, .ref 0), (1, .ref 18), (2, .ref 45), (3, .int (iI i))] [] := by
  have hA := hR.2.2.1
  have hT1 := hR.1.1
  have hT2 := hR.2.1.1
  have h0 := hT1.1.1.1
  have hS := hR.2.2.2.1
  refine Z_aload_n 0 rfl rfl rfl ?_
  refine Z_aload_n 1 rfl rfl rfl ?_
  refine Z_iload_n 2 rfl rfl rfl ?_
  refine Z_iconst 3 rfl ?_
  refine Z_iadd 4 rfl ?_
  refine Z_iaR 5 rfl rfl (by omega) (by omega) ?_
  refine Z_callVi (M' := M_C_unlike) 6 isLC rfl l_L_49 C_C_unlike (c_C_unlike l p rj s w g q q2 sm co hR.1 (F (i + 1)) (hF _)) (emLC ..) (Or.inl ⟨_, _, _, _, rfl, rfl⟩) rfl rfl rfl (Nat.le_of_ble_eq_true rfl) ⟨rfl, rfl, Nat.le_of_ble_eq_true rfl, Nat.le_of_ble_eq_true rfl⟩ ⟨Nat.le_of_ble_eq_true rfl, Nat.le_of_ble_eq_true rfl⟩ (fun out hq => ?_)
  obtain rfl := hq
  refine Z_mem (mgLC ..) ?_
  refine Z_aload_n 7 rfl rfl rfl ?_
  refine Z_aload_n 8 rfl rfl rfl ?_
  refine Z_iload_n 9 rfl rfl rfl ?_
  refine Z_iconst 10 rfl ?_
  refine Z_iadd 11 rfl ?_
  refine Z_iaR 12 rfl rfl (by omega) (by omega) ?_
  refine Z_callVi (M' := M_M_unlike) 13 isLM rfl l_L_52 C_M_unlike (c_M_unlike l m he fa li sl be ov av bl kw sm2 ma mf mw cj hR.2.1 (F (i + 1)) (hF _)) (emLM ..) (Or.inl ⟨_, _, _, _, rfl, rfl⟩) rfl rfl rfl (Nat.le_of_ble_eq_true rfl) ⟨rfl, rfl, Nat.le_of_ble_eq_true rfl, Nat.le_of_ble_eq_true rfl⟩ ⟨Nat.le_of_ble_eq_true rfl, Nat.le_of_ble_eq_true rfl⟩ (fun out hq => ?_)
  obtain rfl := hq
  refine Z_mem (mgLM ..) ?_
  refine Z_ci (Eq.symm (unlikeF_c hA (F (i + 1)))) ?_
  refine Z_sameI 14 rfl (tgt := 1333) rfl ?_
  exact Z_nilI (kk _ _ _ _ _ _ _ _ _ _ _ _ _ _ _ _ _ _ _ _ _ _ _ _ (hR) hj)
def I_lw9 : List (Nat × Instr × Nat × Nat) := [(459, .aload_n 1, 1, 460), (460, .invokevirtual 53, 3, 463), (463, .aload_n 2, 1, 464), (464, .invokevirtual 56, 3, 467), (467, .if_icmp .eq 866, 3, 470)]
theorem D_lw9 : ∀ q ∈ I_lw9, decode code q.1 = .ok (q.2.1, q.2.2.1) ∧ q.1 + q.2.2.1 = q.2.2.2 := by decide +kernel
theorem lw_c9 (hi : 0 ≤ i ∧ i + 6 ≤ (L : Int)) (hL : L ≤ 3072) (hF : ∀ j, inI (F j)) (hR : Rel p m) (hj : TV rj.1) (kk : KK l nm L F i) : Z (XL l nm I_lw9) 47 1946 (eL L F p rj s w g q q2 sm co m he fa li sl be ov av bl kw sm2 ma mf mw cj) 459 [(0, .ref 0), (1, .ref 18), (2, .ref 45), (3, .int (iI i))] [] := by
  have hA := hR.2.2.1
  have hT1 := hR.1.1
  have hT2 := hR.2.1.1
  have h0 := hT1.1.1.1
  have hS := hR.2.2.2.1
  refine Z_aload_n 0 rfl rfl rfl ?_
  refine Z_callVi (M' := M_C_steepestPiece) 1 isLC rfl l_L_53 C_C_steepestPiece (c_C_steepestPiece l p rj s w g q q2 sm co hR.1) (emLC ..) (Or.inl ⟨_, _, _, _, rfl, rfl⟩) rfl rfl rfl (Nat.le_of_ble_eq_true rfl) ⟨rfl, rfl, Nat.le_of_ble_eq_true rfl, Nat.le_of_ble_eq_true rfl⟩ ⟨Nat.le_of_ble_eq_true rfl, Nat.le_of_ble_eq_true rfl⟩ (fun out hq => ?_)
  obtain rfl := hq
  refine Z_mem (mgLC ..) ?_
  refine Z_aload_n 2 rfl rfl rfl ?_
  refine Z_callVi (M' := M_M_steepestPiece) 3 isLM rfl l_L_56 C_M_steepestPiece (c_M_steepestPiece l m he fa li sl be ov av bl kw sm2 ma mf mw cj hR.2.1) (emLM ..) (Or.inl ⟨_, _, _, _, rfl, rfl⟩) rfl rfl rfl (Nat.le_of_ble_eq_true rfl) ⟨rfl, rfl, Nat.le_of_ble_eq_true rfl, Nat.le_of_ble_eq_true rfl⟩ ⟨Nat.le_of_ble_eq_true rfl, Nat.le_of_ble_eq_true rfl⟩ (fun out hq => ?_)
  obtain rfl := hq
  refine Z_mem (mgLM ..) ?_
  refine Z_ci (Eq.symm (spI_c hA h0)) ?_
  refine Z_sameI 4 rfl (tgt := 1333) rfl ?_
  exact Z_nilI (kk _ _ _ _ _ _ _ _ _ _ _ _ _ _ _ _ _ _ _ _ _ _ _ _ (hR) hj)
end LC
