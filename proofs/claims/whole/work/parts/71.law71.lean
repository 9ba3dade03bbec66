/-! the law, case by case: 10 to 19 -/
section LC
variable (l : Launch) (nm : String) (L : Nat) (F : Int → Int) (i : Int) (p : PS) (rj : RJ) (s : SS) (w : WW) (g : RR) (q q2 : Int × Int) (sm co : Int → Int) (m : MP) (he fa li sl be ov av bl : Int) (kw sm2 : Int → Int) (ma mf mw : Int) (cj : TT)
def I_lw10 : List (Nat × Instr × Nat × Nat) := [(472, .aload_n 1, 1, 473), (473, .aload_n 0, 1, 474), (474, .iload_n 3, 1, 475), (475, .iconst 1, 1, 476), (476, .iadd, 1, 477), (477, .iaload, 1, 478), (478, .aload_n 0, 1, 479), (479, .iload_n 3, 1, 480), (480, .iconst 2, 1, 481), (481, .iadd, 1, 482), (482, .iaload, 1, 483), (483, .aload_n 0, 1, 484), (484, .iload_n 3, 1, 485), (485, .iconst 3, 1, 486), (486, .iadd, 1, 487), (487, .iaload, 1, 488), (488, .aload_n 0, 1, 489), (489, .iload_n 3, 1, 490), (490, .iconst 4, 1, 491), (491, .iadd, 1, 492), (492, .iaload, 1, 493), (493, .invokevirtual 57, 3, 496), (496, .aload_n 2, 1, 497), (497, .aload_n 0, 1, 498), (498, .iload_n 3, 1, 499), (499, .iconst 1, 1, 500), (500, .iadd, 1, 501), (501, .iaload, 1, 502), (502, .aload_n 0, 1, 503), (503, .iload_n 3, 1, 504), (504, .iconst 2, 1, 505), (505, .iadd, 1, 506), (506, .iaload, 1, 507), (507, .aload_n 0, 1, 508), (508, .iload_n 3, 1, 509), (509, .iconst 3, 1, 510), (510, .iadd, 1, 511), (511, .iaload, 1, 512), (512, .aload_n 0, 1, 513), (513, .iload_n 3, 1, 514), (514, .iconst 4, 1, 515), (515, .iadd, 1, 516), (516, .iaload, 1, 517), (517, .invokevirtual 61, 3, 520), (520, .lcmp, 1, 521), (521, .ifCond .eq 812, 3, 524)]
theorem D_lw10 : ∀ q ∈ I_lw10, decode code q.1 = .ok (q.2.1, q.2.2.1) ∧ q.1 + q.2.2.1 = q.2.2.2 := by decide +kernel
theorem lw_c10 (hi : 0 ≤ i ∧ i + 6 ≤ (L : Int)) (hL : L ≤ 3072) (hF : ∀ j, inI (F j)) (hR : Rel p m) (hj : TV rj.1) (kk : KK l nm L F i) : Z (XL l nm I_lw10) 47 1946 (eL L F p rj s w g q q2 sm co m he fa li sl be ov av bl kw sm2 ma mf mw cj) 472 [(0, .ref 0), (1, .ref 18), (2, .ref 45), (3, .int (iI i))] [] := by
  have hA := hR.2.2.1
  have hT1 := hR.1.1
  have hT2 := hR.2.1.1
  have h0 := hT1.1.1.1
  have hS := hR.2.2.2.1
  refine Z_aload_n 0 rfl rfl rfl ?_
  refine Z_aload_n 1 rfl rfl rfl ?_
  refine Z_iload_n 2 rfl rfl rfl ?_
  refine Z_iconst 3 rfl ?_
  refine Z_iadd 4 rfl ?_
  refine Z_iaR 5 rfl rfl (by omega) (by omega) ?_
  refine Z_aload_n 6 rfl rfl rfl ?_
  refine Z_iload_n 7 rfl rfl rfl ?_
  refine Z_iconst 8 rfl ?_
  refine Z_iadd 9 rfl ?_
  refine Z_iaR 10 rfl rfl (by omega) (by omega) ?_
  refine Z_aload_n 11 rfl rfl rfl ?_
  refine Z_iload_n 12 rfl rfl rfl ?_
  refine Z_iconst 13 rfl ?_
  refine Z_iadd 14 rfl ?_
  refine Z_iaR 15 rfl rfl (by omega) (by omega) ?_
  refine Z_aload_n 16 rfl rfl rfl ?_
  refine Z_iload_n 17 rfl rfl rfl ?_
  refine Z_iconst 18 rfl ?_
  refine Z_iadd 19 rfl ?_
  refine Z_iaR 20 rfl rfl (by omega) (by omega) ?_
  refine Z_callVl (M' := M_C_at) 21 isLC rfl l_L_57 C_C_at (c_C_at l p rj s w g q q2 sm co hR.1 (F (i + 1)) (F (i + 2)) (F (i + 3)) (F (i + 4)) (hF _) (hF _) (hF _) (hF _)) (emLC ..) (Or.inl ⟨_, _, _, _, rfl, rfl⟩) rfl rfl rfl (Nat.le_of_ble_eq_true rfl) ⟨rfl, rfl, Nat.le_of_ble_eq_true rfl, Nat.le_of_ble_eq_true rfl⟩ ⟨Nat.le_of_ble_eq_true rfl, Nat.le_of_ble_eq_true rfl⟩ (fun out hq => ?_)
  obtain ⟨s', rfl⟩ := hq
  refine Z_mem (mgLC ..) ?_
  refine Z_aload_n 22 rfl rfl rfl ?_
  refine Z_aload_n 23 rfl rfl rfl ?_
  refine Z_iload_n 24 rfl rfl rfl ?_
  refine Z_iconst 25 rfl ?_
  refine Z_iadd 26 rfl ?_
  refine Z_iaR 27 rfl rfl (by omega) (by omega) ?_
  refine Z_aload_n 28 rfl rfl rfl ?_
  refine Z_iload_n 29 rfl rfl rfl ?_
  refine Z_iconst 30 rfl ?_
  refine Z_iadd 31 rfl ?_
  refine Z_iaR 32 rfl rfl (by omega) (by omega) ?_
  refine Z_aload_n 33 rfl rfl rfl ?_
  refine Z_iload_n 34 rfl rfl rfl ?_
  refine Z_iconst 35 rfl ?_
  refine Z_iadd 36 rfl ?_
  refine Z_iaR 37 rfl rfl (by omega) (by omega) ?_
  refine Z_aload_n 38 rfl rfl rfl ?_
  refine Z_iload_n 39 rfl rfl rfl ?_
  refine Z_iconst 40 rfl ?_
  refine Z_iadd 41 rfl ?_
  refine Z_iaR 42 rfl rfl (by omega) (by omega) ?_
  refine Z_callVl (M' := M_M_at) 43 isLM rfl l_L_61 C_M_at (c_M_at l m he fa li sl be ov av bl kw sm2 ma mf mw cj hR.2.1 (F (i + 1)) (F (i + 2)) (F (i + 3)) (F (i + 4)) (hF _) (hF _) (hF _) (hF _)) (emLM ..) (Or.inl ⟨_, _, _, _, rfl, rfl⟩) rfl rfl rfl (Nat.le_of_ble_eq_true rfl) ⟨rfl, rfl, Nat.le_of_ble_eq_true rfl, Nat.le_of_ble_eq_true rfl⟩ ⟨Nat.le_of_ble_eq_true rfl, Nat.le_of_ble_eq_true rfl⟩ (fun out hq => ?_)
  obtain ⟨he', fa', li', sl', be', ov', rfl⟩ := hq
  refine Z_mem (mgLM ..) ?_
  refine Z_cl (Eq.symm (atF_c hA hT1 hT2 (F (i + 1)) (F (i + 2)) (F (i + 3)) (F (i + 4)))) ?_
  refine Z_sameL 44 rfl rfl (tgt := 1333) rfl ?_
  exact Z_nilI (kk _ _ _ _ _ _ _ _ _ _ _ _ _ _ _ _ _ _ _ _ _ _ _ _ (hR) hj)
def I_lw11 : List (Nat × Instr × Nat × Nat) := [(526, .aload_n 1, 1, 527), (527, .aload_n 0, 1, 528), (528, .iload_n 3, 1, 529), (529, .iconst 1, 1, 530), (530, .iadd, 1, 531), (531, .iaload, 1, 532), (532, .aload_n 0, 1, 533), (533, .iload_n 3, 1, 534), (534, .iconst 2, 1, 535), (535, .iadd, 1, 536), (536, .iaload, 1, 537), (537, .aload_n 0, 1, 538), (538, .iload_n 3, 1, 539), (539, .iconst 3, 1, 540), (540, .iadd, 1, 541), (541, .iaload, 1, 542), (542, .invokevirtual 62, 3, 545), (545, .aload_n 2, 1, 546), (546, .aload_n 0, 1, 547), (547, .iload_n 3, 1, 548), (548, .iconst 1, 1, 549), (549, .iadd, 1, 550), (550, .iaload, 1, 551), (551, .aload_n 0, 1, 552), (552, .iload_n 3, 1, 553), (553, .iconst 2, 1, 554), (554, .iadd, 1, 555), (555, .iaload, 1, 556), (556, .aload_n 0, 1, 557), (557, .iload_n 3, 1, 558), (558, .iconst 3, 1, 559), (559, .iadd, 1, 560), (560, .iaload, 1, 561), (561, .invokevirtual 66, 3, 564), (564, .lcmp, 1, 565), (565, .ifCond .eq 768, 3, 568)]
theorem D_lw11 : ∀ q ∈ I_lw11, decode code q.1 = .ok (q.2.1, q.2.2.1) ∧ q.1 + q.2.2.1 = q.2.2.2 := by decide +kernel
theorem lw_c11 (hi : 0 ≤ i ∧ i + 6 ≤ (L : Int)) (hL : L ≤ 3072) (hF : ∀ j, inI (F j)) (hR : Rel p m) (hj : TV rj.1) (kk : KK l nm L F i) : Z (XL l nm I_lw11) 47 1946 (eL L F p rj s w g q q2 sm co m he fa li sl be ov av bl kw sm2 ma mf mw cj) 526 [(0, .ref 0), (1, .ref 18), (2, .ref 45), (3, .int (iI i))] [] := by
  have hA := hR.2.2.1
  have hT1 := hR.1.1
  have hT2 := hR.2.1.1
  have h0 := hT1.1.1.1
  have hS := hR.2.2.2.1
  refine Z_aload_n 0 rfl rfl rfl ?_
  refine Z_aload_n 1 rfl rfl rfl ?_
  refine Z_iload_n 2 rfl rfl rfl ?_
  refine Z_iconst 3 rfl ?_
  refine Z_iadd 4 rfl ?_
  refine Z_iaR 5 rfl rfl (by omega) (by omega) ?_
  refine Z_aload_n 6 rfl rfl rfl ?_
  refine Z_iload_n 7 rfl rfl rfl ?_
  refine Z_iconst 8 rfl ?_
  refine Z_iadd 9 rfl ?_
  refine Z_iaR 10 rfl rfl (by omega) (by omega) ?_
  refine Z_aload_n 11 rfl rfl rfl ?_
  refine Z_iload_n 12 rfl rfl rfl ?_
  refine Z_iconst 13 rfl ?_
  refine Z_iadd 14 rfl ?_
  refine Z_iaR 15 rfl rfl (by omega) (by omega) ?_
  refine Z_callVl (M' := M_C_jump) 16 isLC rfl l_L_62 C_C_jump (c_C_jump l p rj s w g q q2 sm co hR.1 (F (i + 1)) (F (i + 2)) (F (i + 3)) (hF _) (hF _) (hF _)) (emLC ..) (Or.inl ⟨_, _, _, _, rfl, rfl⟩) rfl rfl rfl (Nat.le_of_ble_eq_true rfl) ⟨rfl, rfl, Nat.le_of_ble_eq_true rfl, Nat.le_of_ble_eq_true rfl⟩ ⟨Nat.le_of_ble_eq_true rfl, Nat.le_of_ble_eq_true rfl⟩ (fun out hq => ?_)
  obtain ⟨s', q', q2', rfl⟩ := hq
  refine Z_mem (mgLC ..) ?_
  refine Z_aload_n 17 rfl rfl rfl ?_
  refine Z_aload_n 18 rfl rfl rfl ?_
  refine Z_iload_n 19 rfl rfl rfl ?_
  refine Z_iconst 20 rfl ?_
  refine Z_iadd 21 rfl ?_
  refine Z_iaR 22 rfl rfl (by omega) (by omega) ?_
  refine Z_aload_n 23 rfl rfl rfl ?_
  refine Z_iload_n 24 rfl rfl rfl ?_
  refine Z_iconst 25 rfl ?_
  refine Z_iadd 26 rfl ?_
  refine Z_iaR 27 rfl rfl (by omega) (by omega) ?_
  refine Z_aload_n 28 rfl rfl rfl ?_
  refine Z_iload_n 29 rfl rfl rfl ?_
  refine Z_iconst 30 rfl ?_
  refine Z_iadd 31 rfl ?_
  refine Z_iaR 32 rfl rfl (by omega) (by omega) ?_
  refine Z_callVl (M' := M_M_jump) 33 isLM rfl l_L_66 C_M_jump (c_M_jump l m he fa li sl be ov av bl kw sm2 ma mf mw cj hR.2.1 (F (i + 1)) (F (i + 2)) (F (i + 3)) (hF _) (hF _) (hF _)) (emLM ..) (Or.inl ⟨_, _, _, _, rfl, rfl⟩) rfl rfl rfl (Nat.le_of_ble_eq_true rfl) ⟨rfl, rfl, Nat.le_of_ble_eq_true rfl, Nat.le_of_ble_eq_true rfl⟩ ⟨Nat.le_of_ble_eq_true rfl, Nat.le_of_ble_eq_true rfl⟩ (fun out hq => ?_)
  obtain ⟨he', fa', li', sl', be', ov', av', bl', rfl⟩ := hq
  refine Z_mem (mgLM ..) ?_
  refine Z_cl (Eq.symm (jumpF_c hA hT1 (F (i + 1)) (F (i + 2)) (F (i + 3)))) ?_
  refine Z_sameL 34 rfl rfl (tgt := 1333) rfl ?_
  exact Z_nilI (kk _ _ _ _ _ _ _ _ _ _ _ _ _ _ _ _ _ _ _ _ _ _ _ _ (hR) hj)
def I_lw12 : List (Nat × Instr × Nat × Nat) := [(570, .aload_n 1, 1, 571), (571, .aload_n 0, 1, 572), (572, .iload_n 3, 1, 573), (573, .iconst 1, 1, 574), (574, .iadd, 1, 575), (575, .iaload, 1, 576), (576, .invokevirtual 67, 3, 579), (579, .aload_n 2, 1, 580), (580, .aload_n 0, 1, 581), (581, .iload_n 3, 1, 582), (582, .iconst 1, 1, 583), (583, .iadd, 1, 584), (584, .iaload, 1, 585), (585, .invokevirtual 70, 3, 588), (588, .if_icmp .eq 745, 3, 591)]
theorem D_lw12 : ∀ q ∈ I_lw12, decode code q.1 = .ok (q.2.1, q.2.2.1) ∧ q.1 + q.2.2.1 = q.2.2.2 := by decide +kernel
theorem lw_c12 (hi : 0 ≤ i ∧ i + 6 ≤ (L : Int)) (hL : L ≤ 3072) (hF : ∀ j, inI (F j)) (hR : Rel p m) (hj : TV rj.1) (kk : KK l nm L F i) : Z (XL l nm I_lw12) 47 1946 (eL L F p rj s w g q q2 sm co m he fa li sl be ov av bl kw sm2 ma mf mw cj) 570 [(0, .ref 0), (1, .ref 18), (2, .ref 45), (3, .int (iI i))] [] := by
  have hA := hR.2.2.1
  have hT1 := hR.1.1
  have hT2 := hR.2.1.1
  have h0 := hT1.1.1.1
  have hS := hR.2.2.2.1
  refine Z_aload_n 0 rfl rfl rfl ?_
  refine Z_aload_n 1 rfl rfl rfl ?_
  refine Z_iload_n 2 rfl rfl rfl ?_
  refine Z_iconst 3 rfl ?_
  refine Z_iadd 4 rfl ?_
  refine Z_iaR 5 rfl rfl (by omega) (by omega) ?_
  refine Z_callVi (M' := M_C_join) 6 isLC rfl l_L_67 C_C_join (c_C_join l p rj s w g q q2 sm co hR.1 (F (i + 1)) (hF _)) (emLC ..) (Or.inl ⟨_, _, _, _, rfl, rfl⟩) rfl rfl rfl (Nat.le_of_ble_eq_true rfl) ⟨rfl, rfl, Nat.le_of_ble_eq_true rfl, Nat.le_of_ble_eq_true rfl⟩ ⟨Nat.le_of_ble_eq_true rfl, Nat.le_of_ble_eq_true rfl⟩ (fun out hq => ?_)
  obtain ⟨s', q', q2', rfl⟩ := hq
  refine Z_mem (mgLC ..) ?_
  refine Z_aload_n 7 rfl rfl rfl ?_
  refine Z_aload_n 8 rfl rfl rfl ?_
  refine Z_iload_n 9 rfl rfl rfl ?_
  refine Z_iconst 10 rfl ?_
  refine Z_iadd 11 rfl ?_
  refine Z_iaR 12 rfl rfl (by omega) (by omega) ?_
  refine Z_callVi (M' := M_M_join) 13 isLM rfl l_L_70 C_M_join (c_M_join l m he fa li sl be ov av bl kw sm2 ma mf mw cj hR.2.1 (F (i + 1)) (hF _)) (emLM ..) (Or.inl ⟨_, _, _, _, rfl, rfl⟩) rfl rfl rfl (Nat.le_of_ble_eq_true rfl) ⟨rfl, rfl, Nat.le_of_ble_eq_true rfl, Nat.le_of_ble_eq_true rfl⟩ ⟨Nat.le_of_ble_eq_true rfl, Nat.le_of_ble_eq_true rfl⟩ (fun out hq => ?_)
  obtain ⟨he', fa', li', sl', be', ov', av', bl', rfl⟩ := hq
  refine Z_mem (mgLM ..) ?_
  refine Z_ci (Eq.symm (joinF_c hA hT1 (F (i + 1)))) ?_
  refine Z_sameI 14 rfl (tgt := 1333) rfl ?_
  exact Z_nilI (kk _ _ _ _ _ _ _ _ _ _ _ _ _ _ _ _ _ _ _ _ _ _ _ _ (hR) hj)
def I_lw13 : List (Nat × Instr × Nat × Nat) := [(593, .aload_n 1, 1, 594), (594, .aload_n 0, 1, 595), (595, .iload_n 3, 1, 596), (596, .iconst 1, 1, 597), (597, .iadd, 1, 598), (598, .iaload, 1, 599), (599, .invokevirtual 71, 3, 602), (602, .aload_n 2, 1, 603), (603, .aload_n 0, 1, 604), (604, .iload_n 3, 1, 605), (605, .iconst 1, 1, 606), (606, .iadd, 1, 607), (607, .iaload, 1, 608), (608, .invokevirtual 74, 3, 611), (611, .if_icmp .eq 722, 3, 614)]
theorem D_lw13 : ∀ q ∈ I_lw13, decode code q.1 = .ok (q.2.1, q.2.2.1) ∧ q.1 + q.2.2.1 = q.2.2.2 := by decide +kernel
theorem lw_c13 (hi : 0 ≤ i ∧ i + 6 ≤ (L : Int)) (hL : L ≤ 3072) (hF : ∀ j, inI (F j)) (hR : Rel p m) (hj : TV rj.1) (kk : KK l nm L F i) : Z (XL l nm I_lw13) 47 1946 (eL L F p rj s w g q q2 sm co m he fa li sl be ov av bl kw sm2 ma mf mw cj) 593 [(0, .ref 0), (1, .ref 18), (2, .ref 45), (3, .int (iI i))] [] := by
  have hA := hR.2.2.1
  have hT1 := hR.1.1
  have hT2 := hR.2.1.1
  have h0 := hT1.1.1.1
  have hS := hR.2.2.2.1
  refine Z_aload_n 0 rfl rfl rfl ?_
  refine Z_aload_n 1 rfl rfl rfl ?_
  refine Z_iload_n 2 rfl rfl rfl ?_
  refine Z_iconst 3 rfl ?_
  refine Z_iadd 4 rfl ?_
  refine Z_iaR 5 rfl rfl (by omega) (by omega) ?_
  refine Z_callVi (M' := M_C_joins) 6 isLC rfl l_L_71 C_C_joins (c_C_joins l p rj s w g q q2 sm co hR.1 (F (i + 1)) (hF _)) (emLC ..) (Or.inl ⟨_, _, _, _, rfl, rfl⟩) rfl rfl rfl (Nat.le_of_ble_eq_true rfl) ⟨rfl, rfl, Nat.le_of_ble_eq_true rfl, Nat.le_of_ble_eq_true rfl⟩ ⟨Nat.le_of_ble_eq_true rfl, Nat.le_of_ble_eq_true rfl⟩ (fun out hq => ?_)
  obtain ⟨s', q', q2', rfl⟩ := hq
  refine Z_mem (mgLC ..) ?_
  refine Z_aload_n 7 rfl rfl rfl ?_
  refine Z_aload_n 8 rfl rfl rfl ?_
  refine Z_iload_n 9 rfl rfl rfl ?_
  refine Z_iconst 10 rfl ?_
  refine Z_iadd 11 rfl ?_
  refine Z_iaR 12 rfl rfl (by omega) (by omega) ?_
  refine Z_callVi (M' := M_M_joins) 13 isLM rfl l_L_74 C_M_joins (c_M_joins l m he fa li sl be ov av bl kw sm2 ma mf mw cj hR.2.1 (F (i + 1)) (hF _)) (emLM ..) (Or.inl ⟨_, _, _, _, rfl, rfl⟩) rfl rfl rfl (Nat.le_of_ble_eq_true rfl) ⟨rfl, rfl, Nat.le_of_ble_eq_true rfl, Nat.le_of_ble_eq_true rfl⟩ ⟨Nat.le_of_ble_eq_true rfl, Nat.le_of_ble_eq_true rfl⟩ (fun out hq => ?_)
  obtain ⟨he', fa', li', sl', be', ov', av', bl', rfl⟩ := hq
  refine Z_mem (mgLM ..) ?_
  refine Z_ci (Eq.symm (joinsF_c hA hT1 (F (i + 1)))) ?_
  refine Z_sameI 14 rfl (tgt := 1333) rfl ?_
  exact Z_nilI (kk _ _ _ _ _ _ _ _ _ _ _ _ _ _ _ _ _ _ _ _ _ _ _ _ (hR) hj)
def I_lw14 : List (Nat × Instr × Nat × Nat) := [(616, .aload_n 1, 1, 617), (617, .aload_n 0, 1, 618), (618, .iload_n 3, 1, 619), (619, .iconst 1, 1, 620), (620, .iadd, 1, 621), (621, .iaload, 1, 622), (622, .invokevirtual 75, 3, 625), (625, .aload_n 2, 1, 626), (626, .aload_n 0, 1, 627), (627, .iload_n 3, 1, 628), (628, .iconst 1, 1, 629), (629, .iadd, 1, 630), (630, .iaload, 1, 631), (631, .invokevirtual 78, 3, 634), (634, .if_icmp .eq 699, 3, 637)]
theorem D_lw14 : ∀ q ∈ I_lw14, decode code q.1 = .ok (q.2.1, q.2.2.1) ∧ q.1 + q.2.2.1 = q.2.2.2 := by decide +kernel
theorem lw_c14 (hi : 0 ≤ i ∧ i + 6 ≤ (L : Int)) (hL : L ≤ 3072) (hF : ∀ j, inI (F j)) (hR : Rel p m) (hj : TV rj.1) (kk : KK l nm L F i) : Z (XL l nm I_lw14) 47 1946 (eL L F p rj s w g q q2 sm co m he fa li sl be ov av bl kw sm2 ma mf mw cj) 616 [(0, .ref 0), (1, .ref 18), (2, .ref 45), (3, .int (iI i))] [] := by
  have hA := hR.2.2.1
  have hT1 := hR.1.1
  have hT2 := hR.2.1.1
  have h0 := hT1.1.1.1
  have hS := hR.2.2.2.1
  refine Z_aload_n 0 rfl rfl rfl ?_
  refine Z_aload_n 1 rfl rfl rfl ?_
  refine Z_iload_n 2 rfl rfl rfl ?_
  refine Z_iconst 3 rfl ?_
  refine Z_iadd 4 rfl ?_
  refine Z_iaR 5 rfl rfl (by omega) (by omega) ?_
  refine Z_callVi (M' := M_C_extreme) 6 isLC rfl l_L_75 C_C_extreme (c_C_extreme l p rj q2 sm co hR.1 (F (i + 1)) (hF _) s w g q) (emLC ..) (Or.inl ⟨_, _, _, _, rfl, rfl⟩) rfl rfl rfl (Nat.le_of_ble_eq_true rfl) ⟨rfl, rfl, Nat.le_of_ble_eq_true rfl, Nat.le_of_ble_eq_true rfl⟩ ⟨Nat.le_of_ble_eq_true rfl, Nat.le_of_ble_eq_true rfl⟩ (fun out hq => ?_)
  obtain rfl := hq
  refine Z_mem (mgLC ..) ?_
  refine Z_aload_n 7 rfl rfl rfl ?_
  refine Z_aload_n 8 rfl rfl rfl ?_
  refine Z_iload_n 9 rfl rfl rfl ?_
  refine Z_iconst 10 rfl ?_
  refine Z_iadd 11 rfl ?_
  refine Z_iaR 12 rfl rfl (by omega) (by omega) ?_
  refine Z_callVi (M' := M_M_extreme) 13 isLM rfl l_L_78 C_M_extreme (c_M_extreme l m av bl kw sm2 ma mf mw cj hR.2.1 (F (i + 1)) (hF _) he fa li sl be ov) (emLM ..) (Or.inl ⟨_, _, _, _, rfl, rfl⟩) rfl rfl rfl (Nat.le_of_ble_eq_true rfl) ⟨rfl, rfl, Nat.le_of_ble_eq_true rfl, Nat.le_of_ble_eq_true rfl⟩ ⟨Nat.le_of_ble_eq_true rfl, Nat.le_of_ble_eq_true rfl⟩ (fun out hq => ?_)
  obtain ⟨he', fa', li', sl', be', ov', rfl⟩ := hq
  refine Z_mem (mgLM ..) ?_
  refine Z_ci (Eq.symm (extF_c hA (F (i + 1)))) ?_
  refine Z_sameI 14 rfl (tgt := 1333) rfl ?_
  exact Z_nilI (kk _ _ _ _ _ _ _ _ _ _ _ _ _ _ _ _ _ _ _ _ _ _ _ _ (hR) hj)
def I_lw15 : List (Nat × Instr × Nat × Nat) := [(639, .aload_n 1, 1, 640), (640, .aload_n 0, 1, 641), (641, .iload_n 3, 1, 642), (642, .iconst 1, 1, 643), (643, .iadd, 1, 644), (644, .iaload, 1, 645), (645, .aload_n 0, 1, 646), (646, .iload_n 3, 1, 647), (647, .iconst 2, 1, 648), (648, .iadd, 1, 649), (649, .iaload, 1, 650), (650, .aload_n 0, 1, 651), (651, .iload_n 3, 1, 652), (652, .iconst 3, 1, 653), (653, .iadd, 1, 654), (654, .iaload, 1, 655), (655, .invokevirtual 79, 3, 658), (658, .aload_n 2, 1, 659), (659, .aload_n 0, 1, 660), (660, .iload_n 3, 1, 661), (661, .iconst 1, 1, 662), (662, .iadd, 1, 663), (663, .iaload, 1, 664), (664, .aload_n 0, 1, 665), (665, .iload_n 3, 1, 666), (666, .iconst 2, 1, 667), (667, .iadd, 1, 668), (668, .iaload, 1, 669), (669, .aload_n 0, 1, 670), (670, .iload_n 3, 1, 671), (671, .iconst 3, 1, 672), (672, .iadd, 1, 673), (673, .iaload, 1, 674), (674, .invokevirtual 82, 3, 677), (677, .lcmp, 1, 678), (678, .ifCond .eq 655, 3, 681)]
theorem D_lw15 : ∀ q ∈ I_lw15, decode code q.1 = .ok (q.2.1, q.2.2.1) ∧ q.1 + q.2.2.1 = q.2.2.2 := by decide +kernel
theorem lw_c15 (hi : 0 ≤ i ∧ i + 6 ≤ (L : Int)) (hL : L ≤ 3072) (hF : ∀ j, inI (F j)) (hR : Rel p m) (hj : TV rj.1) (kk : KK l nm L F i) : Z (XL l nm I_lw15) 47 1946 (eL L F p rj s w g q q2 sm co m he fa li sl be ov av bl kw sm2 ma mf mw cj) 639 [(0, .ref 0), (1, .ref 18), (2, .ref 45), (3, .int (iI i))] [] := by
  have hA := hR.2.2.1
  have hT1 := hR.1.1
  have hT2 := hR.2.1.1
  have h0 := hT1.1.1.1
  have hS := hR.2.2.2.1
  refine Z_aload_n 0 rfl rfl rfl ?_
  refine Z_aload_n 1 rfl rfl rfl ?_
  refine Z_iload_n 2 rfl rfl rfl ?_
  refine Z_iconst 3 rfl ?_
  refine Z_iadd 4 rfl ?_
  refine Z_iaR 5 rfl rfl (by omega) (by omega) ?_
  refine Z_aload_n 6 rfl rfl rfl ?_
  refine Z_iload_n 7 rfl rfl rfl ?_
  refine Z_iconst 8 rfl ?_
  refine Z_iadd 9 rfl ?_
  refine Z_iaR 10 rfl rfl (by omega) (by omega) ?_
  refine Z_aload_n 11 rfl rfl rfl ?_
  refine Z_iload_n 12 rfl rfl rfl ?_
  refine Z_iconst 13 rfl ?_
  refine Z_iadd 14 rfl ?_
  refine Z_iaR 15 rfl rfl (by omega) (by omega) ?_
  refine Z_callVl (M' := M_C_curve) 16 isLC rfl l_L_79 C_C_curve (c_C_curve l p rj s w g q q2 sm co hR.1 (F (i + 1)) (F (i + 2)) (F (i + 3)) (hF _) (hF _) (hF _)) (emLC ..) (Or.inl ⟨_, _, _, _, rfl, rfl⟩) rfl rfl rfl (Nat.le_of_ble_eq_true rfl) ⟨rfl, rfl, Nat.le_of_ble_eq_true rfl, Nat.le_of_ble_eq_true rfl⟩ ⟨Nat.le_of_ble_eq_true rfl, Nat.le_of_ble_eq_true rfl⟩ (fun out hq => ?_)
  obtain ⟨s', rfl⟩ := hq
  refine Z_mem (mgLC ..) ?_
  refine Z_aload_n 17 rfl rfl rfl ?_
  refine Z_aload_n 18 rfl rfl rfl ?_
  refine Z_iload_n 19 rfl rfl rfl ?_
  refine Z_iconst 20 rfl ?_
  refine Z_iadd 21 rfl ?_
  refine Z_iaR 22 rfl rfl (by omega) (by omega) ?_
  refine Z_aload_n 23 rfl rfl rfl ?_
  refine Z_iload_n 24 rfl rfl rfl ?_
  refine Z_iconst 25 rfl ?_
  refine Z_iadd 26 rfl ?_
  refine Z_iaR 27 rfl rfl (by omega) (by omega) ?_
  refine Z_aload_n 28 rfl rfl rfl ?_
  refine Z_iload_n 29 rfl rfl rfl ?_
  refine Z_iconst 30 rfl ?_
  refine Z_iadd 31 rfl ?_
  refine Z_iaR 32 rfl rfl (by omega) (by omega) ?_
  refine Z_callVl (M' := M_M_curve) 33 isLM rfl l_L_82 C_M_curve (c_M_curve l m he fa li sl be ov av bl kw sm2 ma mf mw cj hR.2.1 (F (i + 1)) (F (i + 2)) (F (i + 3)) (hF _) (hF _) (hF _)) (emLM ..) (Or.inl ⟨_, _, _, _, rfl, rfl⟩) rfl rfl rfl (Nat.le_of_ble_eq_true rfl) ⟨rfl, rfl, Nat.le_of_ble_eq_true rfl, Nat.le_of_ble_eq_true rfl⟩ ⟨Nat.le_of_ble_eq_true rfl, Nat.le_of_ble_eq_true rfl⟩ (fun out hq => ?_)
  obtain ⟨he', fa', li', sl', be', ov', rfl⟩ := hq
  refine Z_mem (mgLM ..) ?_
  refine Z_cl (Eq.symm ((curveF_c hA hT1 hT2 p.s (F (i + 1)) (F (i + 2)) (F (i + 3))).trans (by rw [hS]))) ?_
  refine Z_sameL 34 rfl rfl (tgt := 1333) rfl ?_
  exact Z_nilI (kk _ _ _ _ _ _ _ _ _ _ _ _ _ _ _ _ _ _ _ _ _ _ _ _ (hR) hj)
def I_lw16 : List (Nat × Instr × Nat × Nat) := [(683, .aload_n 1, 1, 684), (684, .aload_n 0, 1, 685), (685, .iload_n 3, 1, 686), (686, .iconst 1, 1, 687), (687, .iadd, 1, 688), (688, .iaload, 1, 689), (689, .aload_n 0, 1, 690), (690, .iload_n 3, 1, 691), (691, .iconst 2, 1, 692), (692, .iadd, 1, 693), (693, .iaload, 1, 694), (694, .aload_n 0, 1, 695), (695, .iload_n 3, 1, 696), (696, .iconst 3, 1, 697), (697, .iadd, 1, 698), (698, .iaload, 1, 699), (699, .invokevirtual 83, 3, 702), (702, .aload_n 2, 1, 703), (703, .aload_n 0, 1, 704), (704, .iload_n 3, 1, 705), (705, .iconst 1, 1, 706), (706, .iadd, 1, 707), (707, .iaload, 1, 708), (708, .aload_n 0, 1, 709), (709, .iload_n 3, 1, 710), (710, .iconst 2, 1, 711), (711, .iadd, 1, 712), (712, .iaload, 1, 713), (713, .aload_n 0, 1, 714), (714, .iload_n 3, 1, 715), (715, .iconst 3, 1, 716), (716, .iadd, 1, 717), (717, .iaload, 1, 718), (718, .invokevirtual 86, 3, 721), (721, .lcmp, 1, 722), (722, .ifCond .eq 611, 3, 725)]
theorem D_lw16 : ∀ q ∈ I_lw16, decode code q.1 = .ok (q.2.1, q.2.2.1) ∧ q.1 + q.2.2.1 = q.2.2.2 := by decide +kernel
theorem lw_c16 (hi : 0 ≤ i ∧ i + 6 ≤ (L : Int)) (hL : L ≤ 3072) (hF : ∀ j, inI (F j)) (hR : Rel p m) (hj : TV rj.1) (kk : KK l nm L F i) : Z (XL l nm I_lw16) 47 1946 (eL L F p rj s w g q q2 sm co m he fa li sl be ov av bl kw sm2 ma mf mw cj) 683 [(0, .ref 0), (1, .ref 18), (2, .ref 45), (3, .int (iI i))] [] := by
  have hA := hR.2.2.1
  have hT1 := hR.1.1
  have hT2 := hR.2.1.1
  have h0 := hT1.1.1.1
  have hS := hR.2.2.2.1
  refine Z_aload_n 0 rfl rfl rfl ?_
  refine Z_aload_n 1 rfl rfl rfl ?_
  refine Z_iload_n 2 rfl rfl rfl ?_
  refine Z_iconst 3 rfl ?_
  refine Z_iadd 4 rfl ?_
  refine Z_iaR 5 rfl rfl (by omega) (by omega) ?_
  refine Z_aload_n 6 rfl rfl rfl ?_
  refine Z_iload_n 7 rfl rfl rfl ?_
  refine Z_iconst 8 rfl ?_
  refine Z_iadd 9 rfl ?_
  refine Z_iaR 10 rfl rfl (by omega) (by omega) ?_
  refine Z_aload_n 11 rfl rfl rfl ?_
  refine Z_iload_n 12 rfl rfl rfl ?_
  refine Z_iconst 13 rfl ?_
  refine Z_iadd 14 rfl ?_
  refine Z_iaR 15 rfl rfl (by omega) (by omega) ?_
  refine Z_callVl (M' := M_C_pressure) 16 isLC rfl l_L_83 C_C_pressure (c_C_pressure l p rj s w g q q2 sm co hR.1 (F (i + 1)) (F (i + 2)) (F (i + 3)) (hF _) (hF _) (hF _)) (emLC ..) (Or.inl ⟨_, _, _, _, rfl, rfl⟩) rfl rfl rfl (Nat.le_of_ble_eq_true rfl) ⟨rfl, rfl, Nat.le_of_ble_eq_true rfl, Nat.le_of_ble_eq_true rfl⟩ ⟨Nat.le_of_ble_eq_true rfl, Nat.le_of_ble_eq_true rfl⟩ (fun out hq => ?_)
  obtain ⟨s', rfl⟩ := hq
  refine Z_mem (mgLC ..) ?_
  refine Z_aload_n 17 rfl rfl rfl ?_
  refine Z_aload_n 18 rfl rfl rfl ?_
  refine Z_iload_n 19 rfl rfl rfl ?_
  refine Z_iconst 20 rfl ?_
  refine Z_iadd 21 rfl ?_
  refine Z_iaR 22 rfl rfl (by omega) (by omega) ?_
  refine Z_aload_n 23 rfl rfl rfl ?_
  refine Z_iload_n 24 rfl rfl rfl ?_
  refine Z_iconst 25 rfl ?_
  refine Z_iadd 26 rfl ?_
  refine Z_iaR 27 rfl rfl (by omega) (by omega) ?_
  refine Z_aload_n 28 rfl rfl rfl ?_
  refine Z_iload_n 29 rfl rfl rfl ?_
  refine Z_iconst 30 rfl ?_
  refine Z_iadd 31 rfl ?_
  refine Z_iaR 32 rfl rfl (by omega) (by omega) ?_
  refine Z_callVl (M' := M_M_pressure) 33 isLM rfl l_L_86 C_M_pressure (c_M_pressure l m he fa li sl be ov av bl kw sm2 ma mf mw cj hR.2.1 (F (i + 1)) (F (i + 2)) (F (i + 3)) (hF _) (hF _) (hF _)) (emLM ..) (Or.inl ⟨_, _, _, _, rfl, rfl⟩) rfl rfl rfl (Nat.le_of_ble_eq_true rfl) ⟨rfl, rfl, Nat.le_of_ble_eq_true rfl, Nat.le_of_ble_eq_true rfl⟩ ⟨Nat.le_of_ble_eq_true rfl, Nat.le_of_ble_eq_true rfl⟩ (fun out hq => ?_)
  obtain ⟨he', fa', li', sl', be', ov', rfl⟩ := hq
  refine Z_mem (mgLM ..) ?_
  refine Z_cl (Eq.symm ((pressF_c hA hT1 hT2 p.s (F (i + 1)) (F (i + 2)) (F (i + 3))).trans (by rw [hS]))) ?_
  refine Z_sameL 34 rfl rfl (tgt := 1333) rfl ?_
  exact Z_nilI (kk _ _ _ _ _ _ _ _ _ _ _ _ _ _ _ _ _ _ _ _ _ _ _ _ (hR) hj)
def I_lw17 : List (Nat × Instr × Nat × Nat) := [(727, .aload_n 1, 1, 728), (728, .aload_n 0, 1, 729), (729, .iload_n 3, 1, 730), (730, .iconst 1, 1, 731), (731, .iadd, 1, 732), (732, .iaload, 1, 733), (733, .aload_n 0, 1, 734), (734, .iload_n 3, 1, 735), (735, .iconst 2, 1, 736), (736, .iadd, 1, 737), (737, .iaload, 1, 738), (738, .aload_n 0, 1, 739), (739, .iload_n 3, 1, 740), (740, .iconst 3, 1, 741), (741, .iadd, 1, 742), (742, .iaload, 1, 743), (743, .invokevirtual 87, 3, 746), (746, .aload_n 2, 1, 747), (747, .aload_n 0, 1, 748), (748, .iload_n 3, 1, 749), (749, .iconst 1, 1, 750), (750, .iadd, 1, 751), (751, .iaload, 1, 752), (752, .aload_n 0, 1, 753), (753, .iload_n 3, 1, 754), (754, .iconst 2, 1, 755), (755, .iadd, 1, 756), (756, .iaload, 1, 757), (757, .aload_n 0, 1, 758), (758, .iload_n 3, 1, 759), (759, .iconst 3, 1, 760), (760, .iadd, 1, 761), (761, .iaload, 1, 762), (762, .invokevirtual 90, 3, 765), (765, .lcmp, 1, 766), (766, .ifCond .eq 567, 3, 769)]
theorem D_lw17 : ∀ q ∈ I_lw17, decode code q.1 = .ok (q.2.1, q.2.2.1) ∧ q.1 + q.2.2.1 = q.2.2.2 := by decide +kernel
theorem lw_c17 (hi : 0 ≤ i ∧ i + 6 ≤ (L : Int)) (hL : L ≤ 3072) (hF : ∀ j, inI (F j)) (hR : Rel p m) (hj : TV rj.1) (kk : KK l nm L F i) : Z (XL l nm I_lw17) 47 1946 (eL L F p rj s w g q q2 sm co m he fa li sl be ov av bl kw sm2 ma mf mw cj) 727 [(0, .ref 0), (1, .ref 18), (2, .ref 45), (3, .int (iI i))] [] := by
  have hA := hR.2.2.1
  have hT1 := hR.1.1
  have hT2 := hR.2.1.1
  have h0 := hT1.1.1.1
  have hS := hR.2.2.2.1
  refine Z_aload_n 0 rfl rfl rfl ?_
  refine Z_aload_n 1 rfl rfl rfl ?_
  refine Z_iload_n 2 rfl rfl rfl ?_
  refine Z_iconst 3 rfl ?_
  refine Z_iadd 4 rfl ?_
  refine Z_iaR 5 rfl rfl (by omega) (by omega) ?_
  refine Z_aload_n 6 rfl rfl rfl ?_
  refine Z_iload_n 7 rfl rfl rfl ?_
  refine Z_iconst 8 rfl ?_
  refine Z_iadd 9 rfl ?_
  refine Z_iaR 10 rfl rfl (by omega) (by omega) ?_
  refine Z_aload_n 11 rfl rfl rfl ?_
  refine Z_iload_n 12 rfl rfl rfl ?_
  refine Z_iconst 13 rfl ?_
  refine Z_iadd 14 rfl ?_
  refine Z_iaR 15 rfl rfl (by omega) (by omega) ?_
  refine Z_callVl (M' := M_C_force) 16 isLC rfl l_L_87 C_C_force (c_C_force l p rj s w g q q2 sm co hR.1 (F (i + 1)) (F (i + 2)) (F (i + 3)) (hF _) (hF _) (hF _)) (emLC ..) (Or.inl ⟨_, _, _, _, rfl, rfl⟩) rfl rfl rfl (Nat.le_of_ble_eq_true rfl) ⟨rfl, rfl, Nat.le_of_ble_eq_true rfl, Nat.le_of_ble_eq_true rfl⟩ ⟨Nat.le_of_ble_eq_true rfl, Nat.le_of_ble_eq_true rfl⟩ (fun out hq => ?_)
  obtain ⟨s', rfl⟩ := hq
  refine Z_mem (mgLC ..) ?_
  refine Z_aload_n 17 rfl rfl rfl ?_
  refine Z_aload_n 18 rfl rfl rfl ?_
  refine Z_iload_n 19 rfl rfl rfl ?_
  refine Z_iconst 20 rfl ?_
  refine Z_iadd 21 rfl ?_
  refine Z_iaR 22 rfl rfl (by omega) (by omega) ?_
  refine Z_aload_n 23 rfl rfl rfl ?_
  refine Z_iload_n 24 rfl rfl rfl ?_
  refine Z_iconst 25 rfl ?_
  refine Z_iadd 26 rfl ?_
  refine Z_iaR 27 rfl rfl (by omega) (by omega) ?_
  refine Z_aload_n 28 rfl rfl rfl ?_
  refine Z_iload_n 29 rfl rfl rfl ?_
  refine Z_iconst 30 rfl ?_
  refine Z_iadd 31 rfl ?_
  refine Z_iaR 32 rfl rfl (by omega) (by omega) ?_
  refine Z_callVl (M' := M_M_force) 33 isLM rfl l_L_90 C_M_force (c_M_force l m he fa li sl be ov av bl kw sm2 ma mf mw cj hR.2.1 (F (i + 1)) (F (i + 2)) (F (i + 3)) (hF _) (hF _) (hF _)) (emLM ..) (Or.inl ⟨_, _, _, _, rfl, rfl⟩) rfl rfl rfl (Nat.le_of_ble_eq_true rfl) ⟨rfl, rfl, Nat.le_of_ble_eq_true rfl, Nat.le_of_ble_eq_true rfl⟩ ⟨Nat.le_of_ble_eq_true rfl, Nat.le_of_ble_eq_true rfl⟩ (fun out hq => ?_)
  obtain ⟨he', fa', li', sl', be', ov', rfl⟩ := hq
  refine Z_mem (mgLM ..) ?_
  refine Z_cl (Eq.symm ((forceF_c hA hT1 hT2 p.s (F (i + 1)) (F (i + 2)) (F (i + 3))).trans (by rw [hS]))) ?_
  refine Z_sameL 34 rfl rfl (tgt := 1333) rfl ?_
  exact Z_nilI (kk _ _ _ _ _ _ _ _ _ _ _ _ _ _ _ _ _ _ _ _ _ _ _ _ (hR) hj)
def I_lw18 : List (Nat × Instr × Nat × Nat) := [(771, .aload_n 1, 1, 772), (772, .aload_n 0, 1, 773), (773, .iload_n 3, 1, 774), (774, .iconst 1, 1, 775), (775, .iadd, 1, 776), (776, .iaload, 1, 777), (777, .invokevirtual 91, 3, 780), (780, .aload_n 2, 1, 781), (781, .aload_n 0, 1, 782), (782, .iload_n 3, 1, 783), (783, .iconst 1, 1, 784), (784, .iadd, 1, 785), (785, .iaload, 1, 786), (786, .invokevirtual 94, 3, 789), (789, .if_icmp .eq 544, 3, 792)]
theorem D_lw18 : ∀ q ∈ I_lw18, decode code q.1 = .ok (q.2.1, q.2.2.1) ∧ q.1 + q.2.2.1 = q.2.2.2 := by decide +kernel
theorem lw_c18 (hi : 0 ≤ i ∧ i + 6 ≤ (L : Int)) (hL : L ≤ 3072) (hF : ∀ j, inI (F j)) (hR : Rel p m) (hj : TV rj.1) (kk : KK l nm L F i) : Z (XL l nm I_lw18) 47 1946 (eL L F p rj s w g q q2 sm co m he fa li sl be ov av bl kw sm2 ma mf mw cj) 771 [(0, .ref 0), (1, .ref 18), (2, .ref 45), (3, .int (iI i))] [] := by
  have hA := hR.2.2.1
  have hT1 := hR.1.1
  have hT2 := hR.2.1.1
  have h0 := hT1.1.1.1
  have hS := hR.2.2.2.1
  refine Z_aload_n 0 rfl rfl rfl ?_
  refine Z_aload_n 1 rfl rfl rfl ?_
  refine Z_iload_n 2 rfl rfl rfl ?_
  refine Z_iconst 3 rfl ?_
  refine Z_iadd 4 rfl ?_
  refine Z_iaR 5 rfl rfl (by omega) (by omega) ?_
  refine Z_callVi (M' := M_C_count) 6 isLC rfl l_L_91 C_C_count (c_C_count l p rj q2 sm co hR.1 (F (i + 1)) (hF _) s w g q) (emLC ..) (Or.inl ⟨_, _, _, _, rfl, rfl⟩) rfl rfl rfl (Nat.le_of_ble_eq_true rfl) ⟨rfl, rfl, Nat.le_of_ble_eq_true rfl, Nat.le_of_ble_eq_true rfl⟩ ⟨Nat.le_of_ble_eq_true rfl, Nat.le_of_ble_eq_true rfl⟩ (fun out hq => ?_)
  obtain ⟨s', w', g', q', q2', sm', co', rfl⟩ := hq
  refine Z_mem (mgLC ..) ?_
  refine Z_aload_n 7 rfl rfl rfl ?_
  refine Z_aload_n 8 rfl rfl rfl ?_
  refine Z_iload_n 9 rfl rfl rfl ?_
  refine Z_iconst 10 rfl ?_
  refine Z_iadd 11 rfl ?_
  refine Z_iaR 12 rfl rfl (by omega) (by omega) ?_
  refine Z_callVi (M' := M_M_count) 13 isLM rfl l_L_94 C_M_count (c_M_count l m av bl kw sm2 ma mf mw cj hR.2.1 (F (i + 1)) (hF _) he fa li sl be ov) (emLM ..) (Or.inl ⟨_, _, _, _, rfl, rfl⟩) rfl rfl rfl (Nat.le_of_ble_eq_true rfl) ⟨rfl, rfl, Nat.le_of_ble_eq_true rfl, Nat.le_of_ble_eq_true rfl⟩ ⟨Nat.le_of_ble_eq_true rfl, Nat.le_of_ble_eq_true rfl⟩ (fun out hq => ?_)
  obtain ⟨he', fa', li', sl', be', ov', rfl⟩ := hq
  refine Z_mem (mgLM ..) ?_
  refine Z_ci (Eq.symm ((countF_c hA hT1 hT2 p.s (F (i + 1))).trans (by rw [hS]))) ?_
  refine Z_sameI 14 rfl (tgt := 1333) rfl ?_
  exact Z_nilI (kk _ _ _ _ _ _ _ _ _ _ _ _ _ _ _ _ _ _ _ _ _ _ _ _ (hR) hj)
def I_lw19 : List (Nat × Instr × Nat × Nat) := [(794, .aload_n 1, 1, 795), (795, .invokevirtual 95, 3, 798), (798, .aload_n 2, 1, 799), (799, .invokevirtual 98, 3, 802), (802, .if_icmp .eq 531, 3, 805)]
theorem D_lw19 : ∀ q ∈ I_lw19, decode code q.1 = .ok (q.2.1, q.2.2.1) ∧ q.1 + q.2.2.1 = q.2.2.2 := by decide +kernel
theorem lw_c19 (hi : 0 ≤ i ∧ i + 6 ≤ (L : Int)) (hL : L ≤ 3072) (hF : ∀ j, inI (F j)) (hR : Rel p m) (hj : TV rj.1) (kk : KK l nm L F i) : Z (XL l nm I_lw19) 47 1946 (eL L F p rj s w g q q2 sm co m he fa li sl be ov av bl kw sm2 ma mf mw cj) 794 [(0, .ref 0), (1, .ref 18), (2, .ref 45), (3, .int (iI i))] [] := by
  have hA := hR.2.2.1
  have hT1 := hR.1.1
  have hT2 := hR.2.1.1
  have h0 := hT1.1.1.1
  have hS := hR.2.2.2.1
  refine Z_aload_n 0 rfl rfl rfl ?_
  refine Z_callVi (M' := M_C_leastRadius) 1 isLC rfl l_L_95 C_C_leastRadius (c_C_leastRadius l p rj q q2 sm co hR.1 s w g) (emLC ..) (Or.inl ⟨_, _, _, _, rfl, rfl⟩) rfl rfl rfl (Nat.le_of_ble_eq_true rfl) ⟨rfl, rfl, Nat.le_of_ble_eq_true rfl, Nat.le_of_ble_eq_true rfl⟩ ⟨Nat.le_of_ble_eq_true rfl, Nat.le_of_ble_eq_true rfl⟩ (fun out hq => ?_)
  obtain ⟨s', w', g', q', q2', sm', co', rfl⟩ := hq
  refine Z_mem (mgLC ..) ?_
  refine Z_aload_n 2 rfl rfl rfl ?_
  refine Z_callVi (M' := M_M_leastRadius) 3 isLM rfl l_L_98 C_M_leastRadius (c_M_leastRadius l m av bl kw sm2 ma mf mw cj hR.2.1 he fa li sl be ov) (emLM ..) (Or.inl ⟨_, _, _, _, rfl, rfl⟩) rfl rfl rfl (Nat.le_of_ble_eq_true rfl) ⟨rfl, rfl, Nat.le_of_ble_eq_true rfl, Nat.le_of_ble_eq_true rfl⟩ ⟨Nat.le_of_ble_eq_true rfl, Nat.le_of_ble_eq_true rfl⟩ (fun out hq => ?_)
  obtain ⟨he', fa', li', sl', be', ov', rfl⟩ := hq
  refine Z_mem (mgLM ..) ?_
  refine Z_ci (Eq.symm (lrad_c hA hT1 hT2)) ?_
  refine Z_sameI 4 rfl (tgt := 1333) rfl ?_
  exact Z_nilI (kk _ _ _ _ _ _ _ _ _ _ _ _ _ _ _ _ _ _ _ _ _ _ _ _ (hR) hj)
end LC
