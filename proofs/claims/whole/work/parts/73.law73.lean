/-! the law, case by case: 30 to 40 -/
section LC
variable (l : Launch) (nm : String) (L : Nat) (F : Int → Int) (i : Int) (p : PS) (rj : RJ) (s : SS) (w : WW) (g : RR) (q q2 : Int × Int) (sm co : Int → Int) (m : MP) (he fa li sl be ov av bl : Int) (kw sm2 : Int → Int) (ma mf mw : Int) (cj : TT)
def I_lw30 : List (Nat × Instr × Nat × Nat) := [(989, .aload_n 1, 1, 990), (990, .aload_n 0, 1, 991), (991, .iload_n 3, 1, 992), (992, .iconst 1, 1, 993), (993, .iadd, 1, 994), (994, .iaload, 1, 995), (995, .aload_n 0, 1, 996), (996, .iload_n 3, 1, 997), (997, .iconst 2, 1, 998), (998, .iadd, 1, 999), (999, .iaload, 1, 1000), (1000, .aload_n 0, 1, 1001), (1001, .iload_n 3, 1, 1002), (1002, .iconst 3, 1, 1003), (1003, .iadd, 1, 1004), (1004, .iaload, 1, 1005), (1005, .aload_n 0, 1, 1006), (1006, .iload_n 3, 1, 1007), (1007, .iconst 4, 1, 1008), (1008, .iadd, 1, 1009), (1009, .iaload, 1, 1010), (1010, .aload_n 0, 1, 1011), (1011, .iload_n 3, 1, 1012), (1012, .iconst 5, 1, 1013), (1013, .iadd, 1, 1014), (1014, .iaload, 1, 1015), (1015, .invokevirtual 141, 3, 1018), (1018, .aload_n 2, 1, 1019), (1019, .aload_n 0, 1, 1020), (1020, .iload_n 3, 1, 1021), (1021, .iconst 1, 1, 1022), (1022, .iadd, 1, 1023), (1023, .iaload, 1, 1024), (1024, .aload_n 0, 1, 1025), (1025, .iload_n 3, 1, 1026), (1026, .iconst 2, 1, 1027), (1027, .iadd, 1, 1028), (1028, .iaload, 1, 1029), (1029, .aload_n 0, 1, 1030), (1030, .iload_n 3, 1, 1031), (1031, .iconst 3, 1, 1032), (1032, .iadd, 1, 1033), (1033, .iaload, 1, 1034), (1034, .aload_n 0, 1, 1035), (1035, .iload_n 3, 1, 1036), (1036, .iconst 4, 1, 1037), (1037, .iadd, 1, 1038), (1038, .iaload, 1, 1039), (1039, .aload_n 0, 1, 1040), (1040, .iload_n 3, 1, 1041), (1041, .iconst 5, 1, 1042), (1042, .iadd, 1, 1043), (1043, .iaload, 1, 1044), (1044, .invokevirtual 145, 3, 1047), (1047, .if_icmp .eq 286, 3, 1050)]
theorem D_lw30 : ∀ q ∈ I_lw30, decode code q.1 = .ok (q.2.1, q.2.2.1) ∧ q.1 + q.2.2.1 = q.2.2.2 := by decide +kernel
theorem lw_c30 (hi : 0 ≤ i ∧ i + 6 ≤ (L : Int)) (hL : L ≤ 3072) (hF : ∀ j, inI (F j)) (hR : Rel p m) (hj : TV rj.1) (kk : KK l nm L F i) : Z (XL l nm I_lw30) 47 1946 (eL L F p rj s w g q q2 sm co m he fa li sl be ov av bl kw sm2 ma mf mw cj) 989 [(0, .ref 0), (1, .ref 18), (2, .ref 45), (3, .int (iI i))] [] := by
  have hA := hR.2.2.1
  have hT1 := hR.1.1
  have hT2 := hR.2.1.1
  have h0 := hT1.1.1.1
  have hS := hR.2.2.2.1
  refine Z_aload_n 0 rfl rfl rfl ?_
  refine Z_aload_n 1 rfl rfl rfl ?_
  refine Z_iload_n 2 rfl rfl rfl ?_
  refine Z_iconst 3 rfl ?_
  refine Z_iadd 4 rfl ?_
  refine Z_iaR 5 rfl rfl (by omega) (by omega) ?_
  refine Z_aload_n 6 rfl rfl rfl ?_
  refine Z_iload_n 7 rfl rfl rfl ?_
  refine Z_iconst 8 rfl ?_
  refine Z_iadd 9 rfl ?_
  refine Z_iaR 10 rfl rfl (by omega) (by omega) ?_
  refine Z_aload_n 11 rfl rfl rfl ?_
  refine Z_iload_n 12 rfl rfl rfl ?_
  refine Z_iconst 13 rfl ?_
  refine Z_iadd 14 rfl ?_
  refine Z_iaR 15 rfl rfl (by omega) (by omega) ?_
  refine Z_aload_n 16 rfl rfl rfl ?_
  refine Z_iload_n 17 rfl rfl rfl ?_
  refine Z_iconst 18 rfl ?_
  refine Z_iadd 19 rfl ?_
  refine Z_iaR 20 rfl rfl (by omega) (by omega) ?_
  refine Z_aload_n 21 rfl rfl rfl ?_
  refine Z_iload_n 22 rfl rfl rfl ?_
  refine Z_iconst 23 rfl ?_
  refine Z_iadd 24 rfl ?_
  refine Z_iaR 25 rfl rfl (by omega) (by omega) ?_
  refine Z_callVi (M' := M_C_lay) 26 isLC rfl l_L_141 C_C_lay (c_C_lay l p rj w g q q2 sm co s hR.1 (F (i + 1)) (F (i + 2)) (F (i + 3)) (F (i + 4)) (F (i + 5)) (hF _) (hF _) (hF _) (hF _) (hF _)) (emLC ..) (Or.inl ⟨_, _, _, _, rfl, rfl⟩) rfl rfl rfl (Nat.le_of_ble_eq_true rfl) ⟨rfl, rfl, Nat.le_of_ble_eq_true rfl, Nat.le_of_ble_eq_true rfl⟩ ⟨Nat.le_of_ble_eq_true rfl, Nat.le_of_ble_eq_true rfl⟩ (fun out hq => ?_)
  obtain ⟨s', w', g', q', q2', sm', co', rfl⟩ := hq
  refine Z_mem (mgLC ..) ?_
  refine Z_aload_n 27 rfl rfl rfl ?_
  refine Z_aload_n 28 rfl rfl rfl ?_
  refine Z_iload_n 29 rfl rfl rfl ?_
  refine Z_iconst 30 rfl ?_
  refine Z_iadd 31 rfl ?_
  refine Z_iaR 32 rfl rfl (by omega) (by omega) ?_
  refine Z_aload_n 33 rfl rfl rfl ?_
  refine Z_iload_n 34 rfl rfl rfl ?_
  refine Z_iconst 35 rfl ?_
  refine Z_iadd 36 rfl ?_
  refine Z_iaR 37 rfl rfl (by omega) (by omega) ?_
  refine Z_aload_n 38 rfl rfl rfl ?_
  refine Z_iload_n 39 rfl rfl rfl ?_
  refine Z_iconst 40 rfl ?_
  refine Z_iadd 41 rfl ?_
  refine Z_iaR 42 rfl rfl (by omega) (by omega) ?_
  refine Z_aload_n 43 rfl rfl rfl ?_
  refine Z_iload_n 44 rfl rfl rfl ?_
  refine Z_iconst 45 rfl ?_
  refine Z_iadd 46 rfl ?_
  refine Z_iaR 47 rfl rfl (by omega) (by omega) ?_
  refine Z_aload_n 48 rfl rfl rfl ?_
  refine Z_iload_n 49 rfl rfl rfl ?_
  refine Z_iconst 50 rfl ?_
  refine Z_iadd 51 rfl ?_
  refine Z_iaR 52 rfl rfl (by omega) (by omega) ?_
  refine Z_callVi (M' := M_M_lay) 53 isLM rfl l_L_145 C_M_lay (c_M_lay l m kw sm2 ma mf mw cj hR.2.1 (F (i + 1)) (F (i + 2)) (F (i + 3)) (F (i + 4)) (F (i + 5)) he fa li sl be ov av bl (hF _) (hF _) (hF _) (hF _) (hF _)) (emLM ..) (Or.inl ⟨_, _, _, _, rfl, rfl⟩) rfl rfl rfl (Nat.le_of_ble_eq_true rfl) ⟨rfl, rfl, Nat.le_of_ble_eq_true rfl, Nat.le_of_ble_eq_true rfl⟩ ⟨Nat.le_of_ble_eq_true rfl, Nat.le_of_ble_eq_true rfl⟩ (fun out hq => ?_)
  obtain ⟨he', fa', li', sl', be', ov', rfl⟩ := hq
  refine Z_mem (mgLM ..) ?_
  refine Z_ci (Eq.symm ((rel_lay hR (F (i + 1)) (F (i + 2)) (F (i + 3)) (F (i + 4)) (F (i + 5))).1)) ?_
  refine Z_sameI 54 rfl (tgt := 1333) rfl ?_
  exact Z_nilI (kk _ _ _ _ _ _ _ _ _ _ _ _ _ _ _ _ _ _ _ _ _ _ _ _ ((rel_lay hR (F (i + 1)) (F (i + 2)) (F (i + 3)) (F (i + 4)) (F (i + 5))).2) hj)
def I_lw31 : List (Nat × Instr × Nat × Nat) := [(1052, .aload_n 1, 1, 1053), (1053, .aload_n 0, 1, 1054), (1054, .iload_n 3, 1, 1055), (1055, .iconst 1, 1, 1056), (1056, .iadd, 1, 1057), (1057, .iaload, 1, 1058), (1058, .aload_n 0, 1, 1059), (1059, .iload_n 3, 1, 1060), (1060, .iconst 2, 1, 1061), (1061, .iadd, 1, 1062), (1062, .iaload, 1, 1063), (1063, .aload_n 0, 1, 1064), (1064, .iload_n 3, 1, 1065), (1065, .iconst 3, 1, 1066), (1066, .iadd, 1, 1067), (1067, .iaload, 1, 1068), (1068, .aload_n 0, 1, 1069), (1069, .iload_n 3, 1, 1070), (1070, .iconst 4, 1, 1071), (1071, .iadd, 1, 1072), (1072, .iaload, 1, 1073), (1073, .invokevirtual 146, 3, 1076), (1076, .aload_n 2, 1, 1077), (1077, .aload_n 0, 1, 1078), (1078, .iload_n 3, 1, 1079), (1079, .iconst 1, 1, 1080), (1080, .iadd, 1, 1081), (1081, .iaload, 1, 1082), (1082, .aload_n 0, 1, 1083), (1083, .iload_n 3, 1, 1084), (1084, .iconst 2, 1, 1085), (1085, .iadd, 1, 1086), (1086, .iaload, 1, 1087), (1087, .aload_n 0, 1, 1088), (1088, .iload_n 3, 1, 1089), (1089, .iconst 3, 1, 1090), (1090, .iadd, 1, 1091), (1091, .iaload, 1, 1092), (1092, .aload_n 0, 1, 1093), (1093, .iload_n 3, 1, 1094), (1094, .iconst 4, 1, 1095), (1095, .iadd, 1, 1096), (1096, .iaload, 1, 1097), (1097, .invokevirtual 150, 3, 1100), (1100, .if_icmp .eq 233, 3, 1103)]
theorem D_lw31 : ∀ q ∈ I_lw31, decode code q.1 = .ok (q.2.1, q.2.2.1) ∧ q.1 + q.2.2.1 = q.2.2.2 := by decide +kernel
theorem lw_c31 (hi : 0 ≤ i ∧ i + 6 ≤ (L : Int)) (hL : L ≤ 3072) (hF : ∀ j, inI (F j)) (hR : Rel p m) (hj : TV rj.1) (kk : KK l nm L F i) : Z (XL l nm I_lw31) 47 1946 (eL L F p rj s w g q q2 sm co m he fa li sl be ov av bl kw sm2 ma mf mw cj) 1052 [(0, .ref 0), (1, .ref 18), (2, .ref 45), (3, .int (iI i))] [] := by
  have hA := hR.2.2.1
  have hT1 := hR.1.1
  have hT2 := hR.2.1.1
  have h0 := hT1.1.1.1
  have hS := hR.2.2.2.1
  refine Z_aload_n 0 rfl rfl rfl ?_
  refine Z_aload_n 1 rfl rfl rfl ?_
  refine Z_iload_n 2 rfl rfl rfl ?_
  refine Z_iconst 3 rfl ?_
  refine Z_iadd 4 rfl ?_
  refine Z_iaR 5 rfl rfl (by omega) (by omega) ?_
  refine Z_aload_n 6 rfl rfl rfl ?_
  refine Z_iload_n 7 rfl rfl rfl ?_
  refine Z_iconst 8 rfl ?_
  refine Z_iadd 9 rfl ?_
  refine Z_iaR 10 rfl rfl (by omega) (by omega) ?_
  refine Z_aload_n 11 rfl rfl rfl ?_
  refine Z_iload_n 12 rfl rfl rfl ?_
  refine Z_iconst 13 rfl ?_
  refine Z_iadd 14 rfl ?_
  refine Z_iaR 15 rfl rfl (by omega) (by omega) ?_
  refine Z_aload_n 16 rfl rfl rfl ?_
  refine Z_iload_n 17 rfl rfl rfl ?_
  refine Z_iconst 18 rfl ?_
  refine Z_iadd 19 rfl ?_
  refine Z_iaR 20 rfl rfl (by omega) (by omega) ?_
  refine Z_callVi (M' := M_C_seen) 21 isLC rfl l_L_146 C_C_seen (c_C_seen l p rj w g q q2 sm co s hR.1 (F (i + 1)) (F (i + 2)) (F (i + 3)) (F (i + 4)) (hF _) (hF _) (hF _) (hF _)) (emLC ..) (Or.inl ⟨_, _, _, _, rfl, rfl⟩) rfl rfl rfl (Nat.le_of_ble_eq_true rfl) ⟨rfl, rfl, Nat.le_of_ble_eq_true rfl, Nat.le_of_ble_eq_true rfl⟩ ⟨Nat.le_of_ble_eq_true rfl, Nat.le_of_ble_eq_true rfl⟩ (fun out hq => ?_)
  obtain ⟨s', w', g', q', q2', sm', co', rfl⟩ := hq
  refine Z_mem (mgLC ..) ?_
  refine Z_aload_n 22 rfl rfl rfl ?_
  refine Z_aload_n 23 rfl rfl rfl ?_
  refine Z_iload_n 24 rfl rfl rfl ?_
  refine Z_iconst 25 rfl ?_
  refine Z_iadd 26 rfl ?_
  refine Z_iaR 27 rfl rfl (by omega) (by omega) ?_
  refine Z_aload_n 28 rfl rfl rfl ?_
  refine Z_iload_n 29 rfl rfl rfl ?_
  refine Z_iconst 30 rfl ?_
  refine Z_iadd 31 rfl ?_
  refine Z_iaR 32 rfl rfl (by omega) (by omega) ?_
  refine Z_aload_n 33 rfl rfl rfl ?_
  refine Z_iload_n 34 rfl rfl rfl ?_
  refine Z_iconst 35 rfl ?_
  refine Z_iadd 36 rfl ?_
  refine Z_iaR 37 rfl rfl (by omega) (by omega) ?_
  refine Z_aload_n 38 rfl rfl rfl ?_
  refine Z_iload_n 39 rfl rfl rfl ?_
  refine Z_iconst 40 rfl ?_
  refine Z_iadd 41 rfl ?_
  refine Z_iaR 42 rfl rfl (by omega) (by omega) ?_
  refine Z_callVi (M' := M_M_seen) 43 isLM rfl l_L_150 C_M_seen (c_M_seen l m kw sm2 ma mf mw cj hR.2.1 (F (i + 1)) (F (i + 2)) (F (i + 3)) (F (i + 4)) he fa li sl be ov av bl (hF _) (hF _) (hF _) (hF _)) (emLM ..) (Or.inl ⟨_, _, _, _, rfl, rfl⟩) rfl rfl rfl (Nat.le_of_ble_eq_true rfl) ⟨rfl, rfl, Nat.le_of_ble_eq_true rfl, Nat.le_of_ble_eq_true rfl⟩ ⟨Nat.le_of_ble_eq_true rfl, Nat.le_of_ble_eq_true rfl⟩ (fun out hq => ?_)
  obtain rfl := hq
  refine Z_mem (mgLM ..) ?_
  refine Z_ci (Eq.symm (rel_see hR (F (i + 1)) (F (i + 2)) (F (i + 3)) (F (i + 4)))) ?_
  refine Z_sameI 44 rfl (tgt := 1333) rfl ?_
  exact Z_nilI (kk _ _ _ _ _ _ _ _ _ _ _ _ _ _ _ _ _ _ _ _ _ _ _ _ (hR) hj)
def I_lw32 : List (Nat × Instr × Nat × Nat) := [(1105, .aload_n 1, 1, 1106), (1106, .aload_n 0, 1, 1107), (1107, .iload_n 3, 1, 1108), (1108, .iconst 1, 1, 1109), (1109, .iadd, 1, 1110), (1110, .iaload, 1, 1111), (1111, .invokevirtual 151, 3, 1114), (1114, .aload_n 2, 1, 1115), (1115, .aload_n 0, 1, 1116), (1116, .iload_n 3, 1, 1117), (1117, .iconst 1, 1, 1118), (1118, .iadd, 1, 1119), (1119, .iaload, 1, 1120), (1120, .invokevirtual 154, 3, 1123), (1123, .if_icmp .eq 210, 3, 1126)]
theorem D_lw32 : ∀ q ∈ I_lw32, decode code q.1 = .ok (q.2.1, q.2.2.1) ∧ q.1 + q.2.2.1 = q.2.2.2 := by decide +kernel
theorem lw_c32 (hi : 0 ≤ i ∧ i + 6 ≤ (L : Int)) (hL : L ≤ 3072) (hF : ∀ j, inI (F j)) (hR : Rel p m) (hj : TV rj.1) (kk : KK l nm L F i) : Z (XL l nm I_lw32) 47 1946 (eL L F p rj s w g q q2 sm co m he fa li sl be ov av bl kw sm2 ma mf mw cj) 1105 [(0, .ref 0), (1, .ref 18), (2, .ref 45), (3, .int (iI i))] [] := by
  have hA := hR.2.2.1
  have hT1 := hR.1.1
  have hT2 := hR.2.1.1
  have h0 := hT1.1.1.1
  have hS := hR.2.2.2.1
  refine Z_aload_n 0 rfl rfl rfl ?_
  refine Z_aload_n 1 rfl rfl rfl ?_
  refine Z_iload_n 2 rfl rfl rfl ?_
  refine Z_iconst 3 rfl ?_
  refine Z_iadd 4 rfl ?_
  refine Z_iaR 5 rfl rfl (by omega) (by omega) ?_
  refine Z_callVi (M' := M_C_feed) 6 isLC rfl l_L_151 C_C_feed (c_C_feed l p rj w g q q2 sm co s hR.1 (F (i + 1)) (hF _)) (emLC ..) (Or.inl ⟨_, _, _, _, rfl, rfl⟩) rfl rfl rfl (Nat.le_of_ble_eq_true rfl) ⟨rfl, rfl, Nat.le_of_ble_eq_true rfl, Nat.le_of_ble_eq_true rfl⟩ ⟨Nat.le_of_ble_eq_true rfl, Nat.le_of_ble_eq_true rfl⟩ (fun out hq => ?_)
  obtain ⟨s', w', g', q', q2', sm', co', rfl⟩ := hq
  refine Z_mem (mgLC ..) ?_
  refine Z_aload_n 7 rfl rfl rfl ?_
  refine Z_aload_n 8 rfl rfl rfl ?_
  refine Z_iload_n 9 rfl rfl rfl ?_
  refine Z_iconst 10 rfl ?_
  refine Z_iadd 11 rfl ?_
  refine Z_iaR 12 rfl rfl (by omega) (by omega) ?_
  refine Z_callVi (M' := M_M_feed) 13 isLM rfl l_L_154 C_M_feed (c_M_feed l m kw sm2 ma mf mw cj hR.2.1 (F (i + 1)) he fa li sl be ov av bl (hF _)) (emLM ..) (Or.inl ⟨_, _, _, _, rfl, rfl⟩) rfl rfl rfl (Nat.le_of_ble_eq_true rfl) ⟨rfl, rfl, Nat.le_of_ble_eq_true rfl, Nat.le_of_ble_eq_true rfl⟩ ⟨Nat.le_of_ble_eq_true rfl, Nat.le_of_ble_eq_true rfl⟩ (fun out hq => ?_)
  obtain rfl := hq
  refine Z_mem (mgLM ..) ?_
  refine Z_ci (Eq.symm ((rel_feed hR (F (i + 1))).1)) ?_
  refine Z_sameI 14 rfl (tgt := 1333) rfl ?_
  exact Z_nilI (kk _ _ _ _ _ _ _ _ _ _ _ _ _ _ _ _ _ _ _ _ _ _ _ _ ((rel_feed hR (F (i + 1))).2) hj)
def I_lw33 : List (Nat × Instr × Nat × Nat) := [(1128, .aload_n 1, 1, 1129), (1129, .invokevirtual 155, 3, 1132), (1132, .aload_n 2, 1, 1133), (1133, .invokevirtual 158, 3, 1136), (1136, .if_icmp .eq 197, 3, 1139)]
theorem D_lw33 : ∀ q ∈ I_lw33, decode code q.1 = .ok (q.2.1, q.2.2.1) ∧ q.1 + q.2.2.1 = q.2.2.2 := by decide +kernel
theorem lw_c33 (hi : 0 ≤ i ∧ i + 6 ≤ (L : Int)) (hL : L ≤ 3072) (hF : ∀ j, inI (F j)) (hR : Rel p m) (hj : TV rj.1) (kk : KK l nm L F i) : Z (XL l nm I_lw33) 47 1946 (eL L F p rj s w g q q2 sm co m he fa li sl be ov av bl kw sm2 ma mf mw cj) 1128 [(0, .ref 0), (1, .ref 18), (2, .ref 45), (3, .int (iI i))] [] := by
  have hA := hR.2.2.1
  have hT1 := hR.1.1
  have hT2 := hR.2.1.1
  have h0 := hT1.1.1.1
  have hS := hR.2.2.2.1
  refine Z_aload_n 0 rfl rfl rfl ?_
  refine Z_callVi (M' := M_C_clear) 1 isLC rfl l_L_155 C_C_clear (c_C_clear l p rj w g q q2 sm co s) (emLC ..) (Or.inl ⟨_, _, _, _, rfl, rfl⟩) rfl rfl rfl (Nat.le_of_ble_eq_true rfl) ⟨rfl, rfl, Nat.le_of_ble_eq_true rfl, Nat.le_of_ble_eq_true rfl⟩ ⟨Nat.le_of_ble_eq_true rfl, Nat.le_of_ble_eq_true rfl⟩ (fun out hq => ?_)
  obtain ⟨s', w', g', q', q2', sm', co', rfl⟩ := hq
  refine Z_mem (mgLC ..) ?_
  refine Z_aload_n 2 rfl rfl rfl ?_
  refine Z_callVi (M' := M_M_clear) 3 isLM rfl l_L_158 C_M_clear (c_M_clear l m kw sm2 ma mf mw cj he fa li sl be ov av bl) (emLM ..) (Or.inl ⟨_, _, _, _, rfl, rfl⟩) rfl rfl rfl (Nat.le_of_ble_eq_true rfl) ⟨rfl, rfl, Nat.le_of_ble_eq_true rfl, Nat.le_of_ble_eq_true rfl⟩ ⟨Nat.le_of_ble_eq_true rfl, Nat.le_of_ble_eq_true rfl⟩ (fun out hq => ?_)
  obtain rfl := hq
  refine Z_mem (mgLM ..) ?_
  refine Z_ci (Eq.symm (hR.2.2.2.2.2.2.1)) ?_
  refine Z_sameI 4 rfl (tgt := 1333) rfl ?_
  exact Z_nilI (kk _ _ _ _ _ _ _ _ _ _ _ _ _ _ _ _ _ _ _ _ _ _ _ _ (rel_clear hR) hj)
def I_lw34 : List (Nat × Instr × Nat × Nat) := [(1141, .aload_n 1, 1, 1142), (1142, .invokevirtual 159, 3, 1145), (1145, .aload_n 2, 1, 1146), (1146, .invokevirtual 162, 3, 1149), (1149, .if_icmp .eq 184, 3, 1152)]
theorem D_lw34 : ∀ q ∈ I_lw34, decode code q.1 = .ok (q.2.1, q.2.2.1) ∧ q.1 + q.2.2.1 = q.2.2.2 := by decide +kernel
theorem lw_c34 (hi : 0 ≤ i ∧ i + 6 ≤ (L : Int)) (hL : L ≤ 3072) (hF : ∀ j, inI (F j)) (hR : Rel p m) (hj : TV rj.1) (kk : KK l nm L F i) : Z (XL l nm I_lw34) 47 1946 (eL L F p rj s w g q q2 sm co m he fa li sl be ov av bl kw sm2 ma mf mw cj) 1141 [(0, .ref 0), (1, .ref 18), (2, .ref 45), (3, .int (iI i))] [] := by
  have hA := hR.2.2.1
  have hT1 := hR.1.1
  have hT2 := hR.2.1.1
  have h0 := hT1.1.1.1
  have hS := hR.2.2.2.1
  refine Z_aload_n 0 rfl rfl rfl ?_
  refine Z_callVi (M' := M_C_cam) 1 isLC rfl l_L_159 C_C_cam (c_C_cam l p rj s w g q q2 sm co hR.1 hj) (emLC ..) (Or.inl ⟨_, _, _, _, rfl, rfl⟩) rfl rfl rfl (Nat.le_of_ble_eq_true rfl) ⟨rfl, rfl, Nat.le_of_ble_eq_true rfl, Nat.le_of_ble_eq_true rfl⟩ ⟨Nat.le_of_ble_eq_true rfl, Nat.le_of_ble_eq_true rfl⟩ (fun out hq => ?_)
  obtain ⟨t', rj', hX1, hj', hX2, hX3, s', w', g', q', q2', sm', co', rfl⟩ := hq
  refine Z_mem (mgLC ..) ?_
  refine Z_aload_n 2 rfl rfl rfl ?_
  refine Z_callVi (M' := M_M_cam) 3 isLM rfl l_L_162 C_M_cam (c_M_cam l m he fa li sl be ov av bl kw sm2 hR.2.1 ma mf mw cj) (emLM ..) (Or.inl ⟨_, _, _, _, rfl, rfl⟩) rfl rfl rfl (Nat.le_of_ble_eq_true rfl) ⟨rfl, rfl, Nat.le_of_ble_eq_true rfl, Nat.le_of_ble_eq_true rfl⟩ ⟨Nat.le_of_ble_eq_true rfl, Nat.le_of_ble_eq_true rfl⟩ (fun out hq => ?_)
  obtain ⟨u', hY1, hY2, hY3, ma', mf', mw', cj', rfl⟩ := hq
  refine Z_mem (mgLM ..) ?_
  refine Z_ci (Eq.symm ((rel_cam hR hX1 hX2 hX3 hY1 hY2 hY3).1)) ?_
  refine Z_sameI 4 rfl (tgt := 1333) rfl ?_
  exact Z_nilI (kk _ _ _ _ _ _ _ _ _ _ _ _ _ _ _ _ _ _ _ _ _ _ _ _ ((rel_cam hR hX1 hX2 hX3 hY1 hY2 hY3).2) hj')
def I_lw35 : List (Nat × Instr × Nat × Nat) := [(1154, .aload_n 1, 1, 1155), (1155, .invokevirtual 163, 3, 1158), (1158, .aload_n 2, 1, 1159), (1159, .invokevirtual 166, 3, 1162), (1162, .if_icmp .eq 171, 3, 1165)]
theorem D_lw35 : ∀ q ∈ I_lw35, decode code q.1 = .ok (q.2.1, q.2.2.1) ∧ q.1 + q.2.2.1 = q.2.2.2 := by decide +kernel
theorem lw_c35 (hi : 0 ≤ i ∧ i + 6 ≤ (L : Int)) (hL : L ≤ 3072) (hF : ∀ j, inI (F j)) (hR : Rel p m) (hj : TV rj.1) (kk : KK l nm L F i) : Z (XL l nm I_lw35) 47 1946 (eL L F p rj s w g q q2 sm co m he fa li sl be ov av bl kw sm2 ma mf mw cj) 1154 [(0, .ref 0), (1, .ref 18), (2, .ref 45), (3, .int (iI i))] [] := by
  have hA := hR.2.2.1
  have hT1 := hR.1.1
  have hT2 := hR.2.1.1
  have h0 := hT1.1.1.1
  have hS := hR.2.2.2.1
  refine Z_aload_n 0 rfl rfl rfl ?_
  refine Z_callVi (M' := M_C_cause) 1 isLC rfl l_L_163 C_C_cause (c_C_cause l p rj w g q q2 sm co s) (emLC ..) (Or.inl ⟨_, _, _, _, rfl, rfl⟩) rfl rfl rfl (Nat.le_of_ble_eq_true rfl) ⟨rfl, rfl, Nat.le_of_ble_eq_true rfl, Nat.le_of_ble_eq_true rfl⟩ ⟨Nat.le_of_ble_eq_true rfl, Nat.le_of_ble_eq_true rfl⟩ (fun out hq => ?_)
  obtain rfl := hq
  refine Z_mem (mgLC ..) ?_
  refine Z_aload_n 2 rfl rfl rfl ?_
  refine Z_callVi (M' := M_M_cause) 3 isLM rfl l_L_166 C_M_cause (c_M_cause l m kw sm2 ma mf mw cj he fa li sl be ov av bl) (emLM ..) (Or.inl ⟨_, _, _, _, rfl, rfl⟩) rfl rfl rfl (Nat.le_of_ble_eq_true rfl) ⟨rfl, rfl, Nat.le_of_ble_eq_true rfl, Nat.le_of_ble_eq_true rfl⟩ ⟨Nat.le_of_ble_eq_true rfl, Nat.le_of_ble_eq_true rfl⟩ (fun out hq => ?_)
  obtain rfl := hq
  refine Z_mem (mgLM ..) ?_
  refine Z_ci (Eq.symm (hR.2.2.2.2.2.2.2.1)) ?_
  refine Z_sameI 4 rfl (tgt := 1333) rfl ?_
  exact Z_nilI (kk _ _ _ _ _ _ _ _ _ _ _ _ _ _ _ _ _ _ _ _ _ _ _ _ (hR) hj)
def I_lw36 : List (Nat × Instr × Nat × Nat) := [(1167, .aload_n 1, 1, 1168), (1168, .aload_n 0, 1, 1169), (1169, .iload_n 3, 1, 1170), (1170, .iconst 1, 1, 1171), (1171, .iadd, 1, 1172), (1172, .iaload, 1, 1173), (1173, .aload_n 0, 1, 1174), (1174, .iload_n 3, 1, 1175), (1175, .iconst 2, 1, 1176), (1176, .iadd, 1, 1177), (1177, .iaload, 1, 1178), (1178, .invokevirtual 167, 3, 1181), (1181, .aload_n 2, 1, 1182), (1182, .aload_n 0, 1, 1183), (1183, .iload_n 3, 1, 1184), (1184, .iconst 1, 1, 1185), (1185, .iadd, 1, 1186), (1186, .iaload, 1, 1187), (1187, .aload_n 0, 1, 1188), (1188, .iload_n 3, 1, 1189), (1189, .iconst 2, 1, 1190), (1190, .iadd, 1, 1191), (1191, .iaload, 1, 1192), (1192, .invokevirtual 170, 3, 1195), (1195, .if_icmp .eq 138, 3, 1198)]
theorem D_lw36 : ∀ q ∈ I_lw36, decode code q.1 = .ok (q.2.1, q.2.2.1) ∧ q.1 + q.2.2.1 = q.2.2.2 := by decide +kernel
theorem lw_c36 (hi : 0 ≤ i ∧ i + 6 ≤ (L : Int)) (hL : L ≤ 3072) (hF : ∀ j, inI (F j)) (hR : Rel p m) (hj : TV rj.1) (kk : KK l nm L F i) : Z (XL l nm I_lw36) 47 1946 (eL L F p rj s w g q q2 sm co m he fa li sl be ov av bl kw sm2 ma mf mw cj) 1167 [(0, .ref 0), (1, .ref 18), (2, .ref 45), (3, .int (iI i))] [] := by
  have hA := hR.2.2.1
  have hT1 := hR.1.1
  have hT2 := hR.2.1.1
  have h0 := hT1.1.1.1
  have hS := hR.2.2.2.1
  refine Z_aload_n 0 rfl rfl rfl ?_
  refine Z_aload_n 1 rfl rfl rfl ?_
  refine Z_iload_n 2 rfl rfl rfl ?_
  refine Z_iconst 3 rfl ?_
  refine Z_iadd 4 rfl ?_
  refine Z_iaR 5 rfl rfl (by omega) (by omega) ?_
  refine Z_aload_n 6 rfl rfl rfl ?_
  refine Z_iload_n 7 rfl rfl rfl ?_
  refine Z_iconst 8 rfl ?_
  refine Z_iadd 9 rfl ?_
  refine Z_iaR 10 rfl rfl (by omega) (by omega) ?_
  refine Z_callVi (M' := M_C_list) 11 isLC rfl l_L_167 C_C_list (c_C_list l p rj w g q q2 sm co s hR.1 (F (i + 1)) (F (i + 2)) (hF _) (hF _)) (emLC ..) (Or.inl ⟨_, _, _, _, rfl, rfl⟩) rfl rfl rfl (Nat.le_of_ble_eq_true rfl) ⟨rfl, rfl, Nat.le_of_ble_eq_true rfl, Nat.le_of_ble_eq_true rfl⟩ ⟨Nat.le_of_ble_eq_true rfl, Nat.le_of_ble_eq_true rfl⟩ (fun out hq => ?_)
  obtain ⟨s', w', g', q', q2', sm', co', rfl⟩ := hq
  refine Z_mem (mgLC ..) ?_
  refine Z_aload_n 12 rfl rfl rfl ?_
  refine Z_aload_n 13 rfl rfl rfl ?_
  refine Z_iload_n 14 rfl rfl rfl ?_
  refine Z_iconst 15 rfl ?_
  refine Z_iadd 16 rfl ?_
  refine Z_iaR 17 rfl rfl (by omega) (by omega) ?_
  refine Z_aload_n 18 rfl rfl rfl ?_
  refine Z_iload_n 19 rfl rfl rfl ?_
  refine Z_iconst 20 rfl ?_
  refine Z_iadd 21 rfl ?_
  refine Z_iaR 22 rfl rfl (by omega) (by omega) ?_
  refine Z_callVi (M' := M_M_list) 23 isLM rfl l_L_170 C_M_list (c_M_list l m kw sm2 ma mf mw cj hR.2.1 (F (i + 1)) (F (i + 2)) he fa li sl be ov av bl (hF _) (hF _)) (emLM ..) (Or.inl ⟨_, _, _, _, rfl, rfl⟩) rfl rfl rfl (Nat.le_of_ble_eq_true rfl) ⟨rfl, rfl, Nat.le_of_ble_eq_true rfl, Nat.le_of_ble_eq_true rfl⟩ ⟨Nat.le_of_ble_eq_true rfl, Nat.le_of_ble_eq_true rfl⟩ (fun out hq => ?_)
  obtain rfl := hq
  refine Z_mem (mgLM ..) ?_
  refine Z_ci (Eq.symm ((rel_list hR (F (i + 1)) (F (i + 2))).1)) ?_
  refine Z_sameI 24 rfl (tgt := 1333) rfl ?_
  exact Z_nilI (kk _ _ _ _ _ _ _ _ _ _ _ _ _ _ _ _ _ _ _ _ _ _ _ _ ((rel_list hR (F (i + 1)) (F (i + 2))).2) hj)
def I_lw37 : List (Nat × Instr × Nat × Nat) := [(1200, .aload_n 1, 1, 1201), (1201, .aload_n 0, 1, 1202), (1202, .iload_n 3, 1, 1203), (1203, .iconst 1, 1, 1204), (1204, .iadd, 1, 1205), (1205, .iaload, 1, 1206), (1206, .aload_n 0, 1, 1207), (1207, .iload_n 3, 1, 1208), (1208, .iconst 2, 1, 1209), (1209, .iadd, 1, 1210), (1210, .iaload, 1, 1211), (1211, .aload_n 0, 1, 1212), (1212, .iload_n 3, 1, 1213), (1213, .iconst 3, 1, 1214), (1214, .iadd, 1, 1215), (1215, .iaload, 1, 1216), (1216, .i2l, 1, 1217), (1217, .bipush 32, 2, 1219), (1219, .lshl, 1, 1220), (1220, .aload_n 0, 1, 1221), (1221, .iload_n 3, 1, 1222), (1222, .iconst 4, 1, 1223), (1223, .iadd, 1, 1224), (1224, .iaload, 1, 1225), (1225, .i2l, 1, 1226), (1226, .ldc2_w 171, 3, 1229), (1229, .land, 1, 1230), (1230, .lor, 1, 1231), (1231, .invokevirtual 173, 3, 1234), (1234, .aload_n 2, 1, 1235), (1235, .aload_n 0, 1, 1236), (1236, .iload_n 3, 1, 1237), (1237, .iconst 1, 1, 1238), (1238, .iadd, 1, 1239), (1239, .iaload, 1, 1240), (1240, .aload_n 0, 1, 1241), (1241, .iload_n 3, 1, 1242), (1242, .iconst 2, 1, 1243), (1243, .iadd, 1, 1244), (1244, .iaload, 1, 1245), (1245, .aload_n 0, 1, 1246), (1246, .iload_n 3, 1, 1247), (1247, .iconst 3, 1, 1248), (1248, .iadd, 1, 1249), (1249, .iaload, 1, 1250), (1250, .i2l, 1, 1251), (1251, .bipush 32, 2, 1253), (1253, .lshl, 1, 1254), (1254, .aload_n 0, 1, 1255), (1255, .iload_n 3, 1, 1256), (1256, .iconst 4, 1, 1257), (1257, .iadd, 1, 1258), (1258, .iaload, 1, 1259), (1259, .i2l, 1, 1260), (1260, .ldc2_w 171, 3, 1263), (1263, .land, 1, 1264), (1264, .lor, 1, 1265), (1265, .invokevirtual 177, 3, 1268), (1268, .if_icmp .eq 65, 3, 1271)]
theorem D_lw37 : ∀ q ∈ I_lw37, decode code q.1 = .ok (q.2.1, q.2.2.1) ∧ q.1 + q.2.2.1 = q.2.2.2 := by decide +kernel
theorem lw_c37 (hi : 0 ≤ i ∧ i + 6 ≤ (L : Int)) (hL : L ≤ 3072) (hF : ∀ j, inI (F j)) (hR : Rel p m) (hj : TV rj.1) (kk : KK l nm L F i) : Z (XL l nm I_lw37) 47 1946 (eL L F p rj s w g q q2 sm co m he fa li sl be ov av bl kw sm2 ma mf mw cj) 1200 [(0, .ref 0), (1, .ref 18), (2, .ref 45), (3, .int (iI i))] [] := by
  have hA := hR.2.2.1
  have hT1 := hR.1.1
  have hT2 := hR.2.1.1
  have h0 := hT1.1.1.1
  have hS := hR.2.2.2.1
  refine Z_aload_n 0 rfl rfl rfl ?_
  refine Z_aload_n 1 rfl rfl rfl ?_
  refine Z_iload_n 2 rfl rfl rfl ?_
  refine Z_iconst 3 rfl ?_
  refine Z_iadd 4 rfl ?_
  refine Z_iaR 5 rfl rfl (by omega) (by omega) ?_
  refine Z_aload_n 6 rfl rfl rfl ?_
  refine Z_iload_n 7 rfl rfl rfl ?_
  refine Z_iconst 8 rfl ?_
  refine Z_iadd 9 rfl ?_
  refine Z_iaR 10 rfl rfl (by omega) (by omega) ?_
  refine Z_aload_n 11 rfl rfl rfl ?_
  refine Z_iload_n 12 rfl rfl rfl ?_
  refine Z_iconst 13 rfl ?_
  refine Z_iadd 14 rfl ?_
  refine Z_iaR 15 rfl rfl (by omega) (by omega) ?_
  refine Z_i2l 16 rfl (hF _) ?_
  refine Z_bipush 17 rfl rfl ?_
  refine Z_lshl 18 rfl ?_
  refine Z_aload_n 19 rfl rfl rfl ?_
  refine Z_iload_n 20 rfl rfl rfl ?_
  refine Z_iconst 21 rfl ?_
  refine Z_iadd 22 rfl ?_
  refine Z_iaR 23 rfl rfl (by omega) (by omega) ?_
  refine Z_i2l 24 rfl (hF _) ?_
  refine Z_ldc2 25 rfl k_L_171 (c := 4294967295) rfl ?_
  refine Z_land 26 rfl ?_
  refine Z_lor 27 rfl ?_
  refine Z_tl (show _ = lI (lgV (F (i + 3)) (F (i + 4))) from (lI_o _).symm) ?_
  refine Z_callVi (M' := M_C_set) 28 isLC rfl l_L_173 C_C_set (c_C_set l p rj w g q q2 sm co s hR.1 (F (i + 1)) (F (i + 2)) (lgV (F (i + 3)) (F (i + 4))) (hF _) (hF _)) (emLC ..) (Or.inl ⟨_, _, _, _, rfl, rfl⟩) rfl rfl rfl (Nat.le_of_ble_eq_true rfl) ⟨rfl, rfl, Nat.le_of_ble_eq_true rfl, Nat.le_of_ble_eq_true rfl⟩ ⟨Nat.le_of_ble_eq_true rfl, Nat.le_of_ble_eq_true rfl⟩ (fun out hq => ?_)
  obtain ⟨s', w', g', q', q2', sm', co', rfl⟩ := hq
  refine Z_mem (mgLC ..) ?_
  refine Z_aload_n 29 rfl rfl rfl ?_
  refine Z_aload_n 30 rfl rfl rfl ?_
  refine Z_iload_n 31 rfl rfl rfl ?_
  refine Z_iconst 32 rfl ?_
  refine Z_iadd 33 rfl ?_
  refine Z_iaR 34 rfl rfl (by omega) (by omega) ?_
  refine Z_aload_n 35 rfl rfl rfl ?_
  refine Z_iload_n 36 rfl rfl rfl ?_
  refine Z_iconst 37 rfl ?_
  refine Z_iadd 38 rfl ?_
  refine Z_iaR 39 rfl rfl (by omega) (by omega) ?_
  refine Z_aload_n 40 rfl rfl rfl ?_
  refine Z_iload_n 41 rfl rfl rfl ?_
  refine Z_iconst 42 rfl ?_
  refine Z_iadd 43 rfl ?_
  refine Z_iaR 44 rfl rfl (by omega) (by omega) ?_
  refine Z_i2l 45 rfl (hF _) ?_
  refine Z_bipush 46 rfl rfl ?_
  refine Z_lshl 47 rfl ?_
  refine Z_aload_n 48 rfl rfl rfl ?_
  refine Z_iload_n 49 rfl rfl rfl ?_
  refine Z_iconst 50 rfl ?_
  refine Z_iadd 51 rfl ?_
  refine Z_iaR 52 rfl rfl (by omega) (by omega) ?_
  refine Z_i2l 53 rfl (hF _) ?_
  refine Z_ldc2 54 rfl k_L_171 (c := 4294967295) rfl ?_
  refine Z_land 55 rfl ?_
  refine Z_lor 56 rfl ?_
  refine Z_tl (show _ = lI (lgV (F (i + 3)) (F (i + 4))) from (lI_o _).symm) ?_
  refine Z_callVi (M' := M_M_set) 57 isLM rfl l_L_177 C_M_set (c_M_set l m kw sm2 ma mf mw cj hR.2.1 (F (i + 1)) (F (i + 2)) (lgV (F (i + 3)) (F (i + 4))) he fa li sl be ov av bl (hF _) (hF _)) (emLM ..) (Or.inl ⟨_, _, _, _, rfl, rfl⟩) rfl rfl rfl (Nat.le_of_ble_eq_true rfl) ⟨rfl, rfl, Nat.le_of_ble_eq_true rfl, Nat.le_of_ble_eq_true rfl⟩ ⟨Nat.le_of_ble_eq_true rfl, Nat.le_of_ble_eq_true rfl⟩ (fun out hq => ?_)
  obtain rfl := hq
  refine Z_mem (mgLM ..) ?_
  refine Z_ci (Eq.symm ((rel_set hR (F (i + 1)) (F (i + 2)) (lgV (F (i + 3)) (F (i + 4))) (lgV_in _ _)).1)) ?_
  refine Z_sameI 58 rfl (tgt := 1333) rfl ?_
  exact Z_nilI (kk _ _ _ _ _ _ _ _ _ _ _ _ _ _ _ _ _ _ _ _ _ _ _ _ ((rel_set hR (F (i + 1)) (F (i + 2)) (lgV (F (i + 3)) (F (i + 4))) (lgV_in _ _)).2) hj)
def I_lw38 : List (Nat × Instr × Nat × Nat) := [(1273, .aload_n 1, 1, 1274), (1274, .aload_n 0, 1, 1275), (1275, .iload_n 3, 1, 1276), (1276, .iconst 1, 1, 1277), (1277, .iadd, 1, 1278), (1278, .iaload, 1, 1279), (1279, .aload_n 0, 1, 1280), (1280, .iload_n 3, 1, 1281), (1281, .iconst 2, 1, 1282), (1282, .iadd, 1, 1283), (1283, .iaload, 1, 1284), (1284, .invokevirtual 178, 3, 1287), (1287, .aload_n 2, 1, 1288), (1288, .aload_n 0, 1, 1289), (1289, .iload_n 3, 1, 1290), (1290, .iconst 1, 1, 1291), (1291, .iadd, 1, 1292), (1292, .iaload, 1, 1293), (1293, .aload_n 0, 1, 1294), (1294, .iload_n 3, 1, 1295), (1295, .iconst 2, 1, 1296), (1296, .iadd, 1, 1297), (1297, .iaload, 1, 1298), (1298, .invokevirtual 181, 3, 1301), (1301, .lcmp, 1, 1302), (1302, .ifCond .eq 31, 3, 1305)]
theorem D_lw38 : ∀ q ∈ I_lw38, decode code q.1 = .ok (q.2.1, q.2.2.1) ∧ q.1 + q.2.2.1 = q.2.2.2 := by decide +kernel
theorem lw_c38 (hi : 0 ≤ i ∧ i + 6 ≤ (L : Int)) (hL : L ≤ 3072) (hF : ∀ j, inI (F j)) (hR : Rel p m) (hj : TV rj.1) (kk : KK l nm L F i) : Z (XL l nm I_lw38) 47 1946 (eL L F p rj s w g q q2 sm co m he fa li sl be ov av bl kw sm2 ma mf mw cj) 1273 [(0, .ref 0), (1, .ref 18), (2, .ref 45), (3, .int (iI i))] [] := by
  have hA := hR.2.2.1
  have hT1 := hR.1.1
  have hT2 := hR.2.1.1
  have h0 := hT1.1.1.1
  have hS := hR.2.2.2.1
  refine Z_aload_n 0 rfl rfl rfl ?_
  refine Z_aload_n 1 rfl rfl rfl ?_
  refine Z_iload_n 2 rfl rfl rfl ?_
  refine Z_iconst 3 rfl ?_
  refine Z_iadd 4 rfl ?_
  refine Z_iaR 5 rfl rfl (by omega) (by omega) ?_
  refine Z_aload_n 6 rfl rfl rfl ?_
  refine Z_iload_n 7 rfl rfl rfl ?_
  refine Z_iconst 8 rfl ?_
  refine Z_iadd 9 rfl ?_
  refine Z_iaR 10 rfl rfl (by omega) (by omega) ?_
  refine Z_callVl (M' := M_C_get) 11 isLC rfl l_L_178 C_C_get (c_C_get l p rj w g q q2 sm co s hR.1 (F (i + 1)) (F (i + 2)) (hF _) (hF _)) (emLC ..) (Or.inl ⟨_, _, _, _, rfl, rfl⟩) rfl rfl rfl (Nat.le_of_ble_eq_true rfl) ⟨rfl, rfl, Nat.le_of_ble_eq_true rfl, Nat.le_of_ble_eq_true rfl⟩ ⟨Nat.le_of_ble_eq_true rfl, Nat.le_of_ble_eq_true rfl⟩ (fun out hq => ?_)
  obtain ⟨s', w', g', q', q2', sm', co', rfl⟩ := hq
  refine Z_mem (mgLC ..) ?_
  refine Z_aload_n 12 rfl rfl rfl ?_
  refine Z_aload_n 13 rfl rfl rfl ?_
  refine Z_iload_n 14 rfl rfl rfl ?_
  refine Z_iconst 15 rfl ?_
  refine Z_iadd 16 rfl ?_
  refine Z_iaR 17 rfl rfl (by omega) (by omega) ?_
  refine Z_aload_n 18 rfl rfl rfl ?_
  refine Z_iload_n 19 rfl rfl rfl ?_
  refine Z_iconst 20 rfl ?_
  refine Z_iadd 21 rfl ?_
  refine Z_iaR 22 rfl rfl (by omega) (by omega) ?_
  refine Z_callVl (M' := M_M_get) 23 isLM rfl l_L_181 C_M_get (c_M_get l m kw sm2 ma mf mw cj hR.2.1 (F (i + 1)) (F (i + 2)) he fa li sl be ov av bl (hF _) (hF _)) (emLM ..) (Or.inl ⟨_, _, _, _, rfl, rfl⟩) rfl rfl rfl (Nat.le_of_ble_eq_true rfl) ⟨rfl, rfl, Nat.le_of_ble_eq_true rfl, Nat.le_of_ble_eq_true rfl⟩ ⟨Nat.le_of_ble_eq_true rfl, Nat.le_of_ble_eq_true rfl⟩ (fun out hq => ?_)
  obtain rfl := hq
  refine Z_mem (mgLM ..) ?_
  refine Z_cl (Eq.symm (rel_get hR (F (i + 1)) (F (i + 2)))) ?_
  refine Z_sameL 24 rfl rfl (tgt := 1333) rfl ?_
  exact Z_nilI (kk _ _ _ _ _ _ _ _ _ _ _ _ _ _ _ _ _ _ _ _ _ _ _ _ (hR) hj)
def I_lw39 : List (Nat × Instr × Nat × Nat) := [(1307, .aload_n 1, 1, 1308), (1308, .invokevirtual 182, 3, 1311), (1311, .aload_n 2, 1, 1312), (1312, .invokevirtual 185, 3, 1315), (1315, .if_icmp .eq 18, 3, 1318)]
theorem D_lw39 : ∀ q ∈ I_lw39, decode code q.1 = .ok (q.2.1, q.2.2.1) ∧ q.1 + q.2.2.1 = q.2.2.2 := by decide +kernel
theorem lw_c39 (hi : 0 ≤ i ∧ i + 6 ≤ (L : Int)) (hL : L ≤ 3072) (hF : ∀ j, inI (F j)) (hR : Rel p m) (hj : TV rj.1) (kk : KK l nm L F i) : Z (XL l nm I_lw39) 47 1946 (eL L F p rj s w g q q2 sm co m he fa li sl be ov av bl kw sm2 ma mf mw cj) 1307 [(0, .ref 0), (1, .ref 18), (2, .ref 45), (3, .int (iI i))] [] := by
  have hA := hR.2.2.1
  have hT1 := hR.1.1
  have hT2 := hR.2.1.1
  have h0 := hT1.1.1.1
  have hS := hR.2.2.2.1
  refine Z_aload_n 0 rfl rfl rfl ?_
  refine Z_callVi (M' := M_C_image) 1 isLC rfl l_L_182 C_C_image (c_C_image l p rj w g q q2 sm co s hR.1) (emLC ..) (Or.inl ⟨_, _, _, _, rfl, rfl⟩) rfl rfl rfl (Nat.le_of_ble_eq_true rfl) ⟨rfl, rfl, Nat.le_of_ble_eq_true rfl, Nat.le_of_ble_eq_true rfl⟩ ⟨Nat.le_of_ble_eq_true rfl, Nat.le_of_ble_eq_true rfl⟩ (fun out hq => ?_)
  obtain ⟨s', w', g', q', q2', sm', co', rfl⟩ := hq
  refine Z_mem (mgLC ..) ?_
  refine Z_aload_n 2 rfl rfl rfl ?_
  refine Z_callVi (M' := M_M_image) 3 isLM rfl l_L_185 C_M_image (c_M_image l m kw sm2 ma mf mw cj hR.2.1 he fa li sl be ov av bl) (emLM ..) (Or.inl ⟨_, _, _, _, rfl, rfl⟩) rfl rfl rfl (Nat.le_of_ble_eq_true rfl) ⟨rfl, rfl, Nat.le_of_ble_eq_true rfl, Nat.le_of_ble_eq_true rfl⟩ ⟨Nat.le_of_ble_eq_true rfl, Nat.le_of_ble_eq_true rfl⟩ (fun out hq => ?_)
  obtain rfl := hq
  refine Z_mem (mgLM ..) ?_
  refine Z_ci (Eq.symm (hA.1)) ?_
  refine Z_sameI 4 rfl (tgt := 1333) rfl ?_
  exact Z_nilI (kk _ _ _ _ _ _ _ _ _ _ _ _ _ _ _ _ _ _ _ _ _ _ _ _ (rel_img hR) hj)
def I_lw40 : List (Nat × Instr × Nat × Nat) := [(1320, .aload_n 1, 1, 1321), (1321, .invokevirtual 186, 3, 1324), (1324, .aload_n 2, 1, 1325), (1325, .invokevirtual 189, 3, 1328), (1328, .if_icmp .eq 5, 3, 1331)]
theorem D_lw40 : ∀ q ∈ I_lw40, decode code q.1 = .ok (q.2.1, q.2.2.1) ∧ q.1 + q.2.2.1 = q.2.2.2 := by decide +kernel
theorem lw_c40 (hi : 0 ≤ i ∧ i + 6 ≤ (L : Int)) (hL : L ≤ 3072) (hF : ∀ j, inI (F j)) (hR : Rel p m) (hj : TV rj.1) (kk : KK l nm L F i) : Z (XL l nm I_lw40) 47 1946 (eL L F p rj s w g q q2 sm co m he fa li sl be ov av bl kw sm2 ma mf mw cj) 1320 [(0, .ref 0), (1, .ref 18), (2, .ref 45), (3, .int (iI i))] [] := by
  have hA := hR.2.2.1
  have hT1 := hR.1.1
  have hT2 := hR.2.1.1
  have h0 := hT1.1.1.1
  have hS := hR.2.2.2.1
  refine Z_aload_n 0 rfl rfl rfl ?_
  refine Z_callVi (M' := M_C_undo) 1 isLC rfl l_L_186 C_C_undo (c_C_undo l p rj w g q q2 sm co s hR.1) (emLC ..) (Or.inl ⟨_, _, _, _, rfl, rfl⟩) rfl rfl rfl (Nat.le_of_ble_eq_true rfl) ⟨rfl, rfl, Nat.le_of_ble_eq_true rfl, Nat.le_of_ble_eq_true rfl⟩ ⟨Nat.le_of_ble_eq_true rfl, Nat.le_of_ble_eq_true rfl⟩ (fun out hq => ?_)
  obtain ⟨s', w', g', q', q2', sm', co', rfl⟩ := hq
  refine Z_mem (mgLC ..) ?_
  refine Z_aload_n 2 rfl rfl rfl ?_
  refine Z_callVi (M' := M_M_undo) 3 isLM rfl l_L_189 C_M_undo (c_M_undo l m kw sm2 ma mf mw cj hR.2.1 he fa li sl be ov av bl) (emLM ..) (Or.inl ⟨_, _, _, _, rfl, rfl⟩) rfl rfl rfl (Nat.le_of_ble_eq_true rfl) ⟨rfl, rfl, Nat.le_of_ble_eq_true rfl, Nat.le_of_ble_eq_true rfl⟩ ⟨Nat.le_of_ble_eq_true rfl, Nat.le_of_ble_eq_true rfl⟩ (fun out hq => ?_)
  obtain rfl := hq
  refine Z_mem (mgLM ..) ?_
  refine Z_ci (Eq.symm ((rel_und hR).1)) ?_
  refine Z_sameI 4 rfl (tgt := 1333) rfl ?_
  exact Z_nilI (kk _ _ _ _ _ _ _ _ _ _ _ _ _ _ _ _ _ _ _ _ _ _ _ _ ((rel_und hR).2) hj)
end LC
