/-! the law, case by case: 20 to 29 -/
section LC
variable (l : Launch) (nm : String) (L : Nat) (F : Int → Int) (i : Int) (p : PS) (rj : RJ) (s : SS) (w : WW) (g : RR) (q q2 : Int × Int) (sm co : Int → Int) (m : MP) (he fa li sl be ov av bl : Int) (kw sm2 : Int → Int) (ma mf mw : Int) (cj : TT)
def I_lw20 : List (Nat × Instr × Nat × Nat) := [(807, .aload_n 1, 1, 808), (808, .invokevirtual 99, 3, 811), (811, .aload_n 2, 1, 812), (812, .invokevirtual 102, 3, 815), (815, .if_icmp .eq 518, 3, 818)]
theorem D_lw20 : ∀ q ∈ I_lw20, decode code q.1 = .ok (q.2.1, q.2.2.1) ∧ q.1 + q.2.2.1 = q.2.2.2 := by decide +kernel
theorem lw_c20 (hi : 0 ≤ i ∧ i + 6 ≤ (L : Int)) (hL : L ≤ 3072) (hF : ∀ j, inI (F j)) (hR : Rel p m) (hj : TV rj.1) (kk : KK l nm L F i) : Z (XL l nm I_lw20) 47 1946 (eL L F p rj s w g q q2 sm co m he fa li sl be ov av bl kw sm2 ma mf mw cj) 807 [(0, .ref 0), (1, .ref 18), (2, .ref 45), (3, .int (iI i))] [] := by
  have hA := hR.2.2.1
  have hT1 := hR.1.1
  have hT2 := hR.2.1.1
  have h0 := hT1.1.1.1
  have hS := hR.2.2.2.1
  refine Z_aload_n 0 rfl rfl rfl ?_
  refine Z_callVi (M' := M_C_steepest) 1 isLC rfl l_L_99 C_C_steepest (c_C_steepest l p rj q2 sm co hR.1 s w g q) (emLC ..) (Or.inl ⟨_, _, _, _, rfl, rfl⟩) rfl rfl rfl (Nat.le_of_ble_eq_true rfl) ⟨rfl, rfl, Nat.le_of_ble_eq_true rfl, Nat.le_of_ble_eq_true rfl⟩ ⟨Nat.le_of_ble_eq_true rfl, Nat.le_of_ble_eq_true rfl⟩ (fun out hq => ?_)
  obtain ⟨s', w', g', q', q2', sm', co', rfl⟩ := hq
  refine Z_mem (mgLC ..) ?_
  refine Z_aload_n 2 rfl rfl rfl ?_
  refine Z_callVi (M' := M_M_steepest) 3 isLM rfl l_L_102 C_M_steepest (c_M_steepest l m av bl kw sm2 ma mf mw cj hR.2.1 he fa li sl be ov) (emLM ..) (Or.inl ⟨_, _, _, _, rfl, rfl⟩) rfl rfl rfl (Nat.le_of_ble_eq_true rfl) ⟨rfl, rfl, Nat.le_of_ble_eq_true rfl, Nat.le_of_ble_eq_true rfl⟩ ⟨Nat.le_of_ble_eq_true rfl, Nat.le_of_ble_eq_true rfl⟩ (fun out hq => ?_)
  obtain ⟨he', fa', li', sl', be', ov', rfl⟩ := hq
  refine Z_mem (mgLM ..) ?_
  refine Z_ci (Eq.symm ((stA_c hA hT1 hT2 p.s).trans (by rw [hS]))) ?_
  refine Z_sameI 4 rfl (tgt := 1333) rfl ?_
  exact Z_nilI (kk _ _ _ _ _ _ _ _ _ _ _ _ _ _ _ _ _ _ _ _ _ _ _ _ (hR) hj)
def I_lw21 : List (Nat × Instr × Nat × Nat) := [(820, .aload_n 1, 1, 821), (821, .aload_n 0, 1, 822), (822, .iload_n 3, 1, 823), (823, .iconst 1, 1, 824), (824, .iadd, 1, 825), (825, .iaload, 1, 826), (826, .invokevirtual 103, 3, 829), (829, .aload_n 2, 1, 830), (830, .aload_n 0, 1, 831), (831, .iload_n 3, 1, 832), (832, .iconst 1, 1, 833), (833, .iadd, 1, 834), (834, .iaload, 1, 835), (835, .invokevirtual 106, 3, 838), (838, .if_icmp .eq 495, 3, 841)]
theorem D_lw21 : ∀ q ∈ I_lw21, decode code q.1 = .ok (q.2.1, q.2.2.1) ∧ q.1 + q.2.2.1 = q.2.2.2 := by decide +kernel
theorem lw_c21 (hi : 0 ≤ i ∧ i + 6 ≤ (L : Int)) (hL : L ≤ 3072) (hF : ∀ j, inI (F j)) (hR : Rel p m) (hj : TV rj.1) (kk : KK l nm L F i) : Z (XL l nm I_lw21) 47 1946 (eL L F p rj s w g q q2 sm co m he fa li sl be ov av bl kw sm2 ma mf mw cj) 820 [(0, .ref 0), (1, .ref 18), (2, .ref 45), (3, .int (iI i))] [] := by
  have hA := hR.2.2.1
  have hT1 := hR.1.1
  have hT2 := hR.2.1.1
  have h0 := hT1.1.1.1
  have hS := hR.2.2.2.1
  refine Z_aload_n 0 rfl rfl rfl ?_
  refine Z_aload_n 1 rfl rfl rfl ?_
  refine Z_iload_n 2 rfl rfl rfl ?_
  refine Z_iconst 3 rfl ?_
  refine Z_iadd 4 rfl ?_
  refine Z_iaR 5 rfl rfl (by omega) (by omega) ?_
  refine Z_callVi (M' := M_C_gentle) 6 isLC rfl l_L_103 C_C_gentle (c_C_gentle l p rj q q2 sm co hR.1 (F (i + 1)) (hF _) s w g) (emLC ..) (Or.inl ⟨_, _, _, _, rfl, rfl⟩) rfl rfl rfl (Nat.le_of_ble_eq_true rfl) ⟨rfl, rfl, Nat.le_of_ble_eq_true rfl, Nat.le_of_ble_eq_true rfl⟩ ⟨Nat.le_of_ble_eq_true rfl, Nat.le_of_ble_eq_true rfl⟩ (fun out hq => ?_)
  obtain ⟨s', w', g', q', q2', sm', co', rfl⟩ := hq
  refine Z_mem (mgLC ..) ?_
  refine Z_aload_n 7 rfl rfl rfl ?_
  refine Z_aload_n 8 rfl rfl rfl ?_
  refine Z_iload_n 9 rfl rfl rfl ?_
  refine Z_iconst 10 rfl ?_
  refine Z_iadd 11 rfl ?_
  refine Z_iaR 12 rfl rfl (by omega) (by omega) ?_
  refine Z_callVi (M' := M_M_gentle) 13 isLM rfl l_L_106 C_M_gentle (c_M_gentle l m av bl kw sm2 ma mf mw cj hR.2.1 (F (i + 1)) (hF _) he fa li sl be ov) (emLM ..) (Or.inl ⟨_, _, _, _, rfl, rfl⟩) rfl rfl rfl (Nat.le_of_ble_eq_true rfl) ⟨rfl, rfl, Nat.le_of_ble_eq_true rfl, Nat.le_of_ble_eq_true rfl⟩ ⟨Nat.le_of_ble_eq_true rfl, Nat.le_of_ble_eq_true rfl⟩ (fun out hq => ?_)
  obtain ⟨he', fa', li', sl', be', ov', rfl⟩ := hq
  refine Z_mem (mgLM ..) ?_
  refine Z_ci (Eq.symm (gentleF_c hA hT1 hT2 (F (i + 1)))) ?_
  refine Z_sameI 14 rfl (tgt := 1333) rfl ?_
  exact Z_nilI (kk _ _ _ _ _ _ _ _ _ _ _ _ _ _ _ _ _ _ _ _ _ _ _ _ (hR) hj)
def I_lw22 : List (Nat × Instr × Nat × Nat) := [(843, .aload_n 1, 1, 844), (844, .invokevirtual 107, 3, 847), (847, .aload_n 2, 1, 848), (848, .invokevirtual 110, 3, 851), (851, .if_icmp .eq 482, 3, 854)]
theorem D_lw22 : ∀ q ∈ I_lw22, decode code q.1 = .ok (q.2.1, q.2.2.1) ∧ q.1 + q.2.2.1 = q.2.2.2 := by decide +kernel
theorem lw_c22 (hi : 0 ≤ i ∧ i + 6 ≤ (L : Int)) (hL : L ≤ 3072) (hF : ∀ j, inI (F j)) (hR : Rel p m) (hj : TV rj.1) (kk : KK l nm L F i) : Z (XL l nm I_lw22) 47 1946 (eL L F p rj s w g q q2 sm co m he fa li sl be ov av bl kw sm2 ma mf mw cj) 843 [(0, .ref 0), (1, .ref 18), (2, .ref 45), (3, .int (iI i))] [] := by
  have hA := hR.2.2.1
  have hT1 := hR.1.1
  have hT2 := hR.2.1.1
  have h0 := hT1.1.1.1
  have hS := hR.2.2.2.1
  refine Z_aload_n 0 rfl rfl rfl ?_
  refine Z_callVi (M' := M_C_floating) 1 isLC rfl l_L_107 C_C_floating (c_C_floating l p rj q q2 sm co hR.1 s w g) (emLC ..) (Or.inl ⟨_, _, _, _, rfl, rfl⟩) rfl rfl rfl (Nat.le_of_ble_eq_true rfl) ⟨rfl, rfl, Nat.le_of_ble_eq_true rfl, Nat.le_of_ble_eq_true rfl⟩ ⟨Nat.le_of_ble_eq_true rfl, Nat.le_of_ble_eq_true rfl⟩ (fun out hq => ?_)
  obtain ⟨s', w', g', q', q2', sm', co', rfl⟩ := hq
  refine Z_mem (mgLC ..) ?_
  refine Z_aload_n 2 rfl rfl rfl ?_
  refine Z_callVi (M' := M_M_floating) 3 isLM rfl l_L_110 C_M_floating (c_M_floating l m av bl kw sm2 ma mf mw cj hR.2.1 he fa li sl be ov) (emLM ..) (Or.inl ⟨_, _, _, _, rfl, rfl⟩) rfl rfl rfl (Nat.le_of_ble_eq_true rfl) ⟨rfl, rfl, Nat.le_of_ble_eq_true rfl, Nat.le_of_ble_eq_true rfl⟩ ⟨Nat.le_of_ble_eq_true rfl, Nat.le_of_ble_eq_true rfl⟩ (fun out hq => ?_)
  obtain ⟨he', fa', li', sl', be', ov', rfl⟩ := hq
  refine Z_mem (mgLM ..) ?_
  refine Z_ci (Eq.symm ((lflo_c hA hT1 hT2 p.s).trans (by rw [hS]))) ?_
  refine Z_sameI 4 rfl (tgt := 1333) rfl ?_
  exact Z_nilI (kk _ _ _ _ _ _ _ _ _ _ _ _ _ _ _ _ _ _ _ _ _ _ _ _ (hR) hj)
def I_lw23 : List (Nat × Instr × Nat × Nat) := [(856, .aload_n 1, 1, 857), (857, .invokevirtual 111, 3, 860), (860, .aload_n 2, 1, 861), (861, .invokevirtual 114, 3, 864), (864, .if_icmp .eq 469, 3, 867)]
theorem D_lw23 : ∀ q ∈ I_lw23, decode code q.1 = .ok (q.2.1, q.2.2.1) ∧ q.1 + q.2.2.1 = q.2.2.2 := by decide +kernel
theorem lw_c23 (hi : 0 ≤ i ∧ i + 6 ≤ (L : Int)) (hL : L ≤ 3072) (hF : ∀ j, inI (F j)) (hR : Rel p m) (hj : TV rj.1) (kk : KK l nm L F i) : Z (XL l nm I_lw23) 47 1946 (eL L F p rj s w g q q2 sm co m he fa li sl be ov av bl kw sm2 ma mf mw cj) 856 [(0, .ref 0), (1, .ref 18), (2, .ref 45), (3, .int (iI i))] [] := by
  have hA := hR.2.2.1
  have hT1 := hR.1.1
  have hT2 := hR.2.1.1
  have h0 := hT1.1.1.1
  have hS := hR.2.2.2.1
  refine Z_aload_n 0 rfl rfl rfl ?_
  refine Z_callVi (M' := M_C_leastPreload) 1 isLC rfl l_L_111 C_C_leastPreload (c_C_leastPreload l p rj q q2 sm co hR.1 s w g) (emLC ..) (Or.inl ⟨_, _, _, _, rfl, rfl⟩) rfl rfl rfl (Nat.le_of_ble_eq_true rfl) ⟨rfl, rfl, Nat.le_of_ble_eq_true rfl, Nat.le_of_ble_eq_true rfl⟩ ⟨Nat.le_of_ble_eq_true rfl, Nat.le_of_ble_eq_true rfl⟩ (fun out hq => ?_)
  obtain ⟨s', w', g', q', q2', sm', co', rfl⟩ := hq
  refine Z_mem (mgLC ..) ?_
  refine Z_aload_n 2 rfl rfl rfl ?_
  refine Z_callVi (M' := M_M_leastPreload) 3 isLM rfl l_L_114 C_M_leastPreload (c_M_leastPreload l m av bl kw sm2 ma mf mw cj hR.2.1 he fa li sl be ov) (emLM ..) (Or.inl ⟨_, _, _, _, rfl, rfl⟩) rfl rfl rfl (Nat.le_of_ble_eq_true rfl) ⟨rfl, rfl, Nat.le_of_ble_eq_true rfl, Nat.le_of_ble_eq_true rfl⟩ ⟨Nat.le_of_ble_eq_true rfl, Nat.le_of_ble_eq_true rfl⟩ (fun out hq => ?_)
  obtain ⟨he', fa', li', sl', be', ov', rfl⟩ := hq
  refine Z_mem (mgLM ..) ?_
  refine Z_ci (Eq.symm ((lpre_c hA hT1 hT2 p.s).trans (by rw [hS]))) ?_
  refine Z_sameI 4 rfl (tgt := 1333) rfl ?_
  exact Z_nilI (kk _ _ _ _ _ _ _ _ _ _ _ _ _ _ _ _ _ _ _ _ _ _ _ _ (hR) hj)
def I_lw24 : List (Nat × Instr × Nat × Nat) := [(869, .aload_n 1, 1, 870), (870, .invokevirtual 115, 3, 873), (873, .aload_n 2, 1, 874), (874, .invokevirtual 118, 3, 877), (877, .if_icmp .eq 456, 3, 880)]
theorem D_lw24 : ∀ q ∈ I_lw24, decode code q.1 = .ok (q.2.1, q.2.2.1) ∧ q.1 + q.2.2.1 = q.2.2.2 := by decide +kernel
theorem lw_c24 (hi : 0 ≤ i ∧ i + 6 ≤ (L : Int)) (hL : L ≤ 3072) (hF : ∀ j, inI (F j)) (hR : Rel p m) (hj : TV rj.1) (kk : KK l nm L F i) : Z (XL l nm I_lw24) 47 1946 (eL L F p rj s w g q q2 sm co m he fa li sl be ov av bl kw sm2 ma mf mw cj) 869 [(0, .ref 0), (1, .ref 18), (2, .ref 45), (3, .int (iI i))] [] := by
  have hA := hR.2.2.1
  have hT1 := hR.1.1
  have hT2 := hR.2.1.1
  have h0 := hT1.1.1.1
  have hS := hR.2.2.2.1
  refine Z_aload_n 0 rfl rfl rfl ?_
  refine Z_callVi (M' := M_C_leastStiff) 1 isLC rfl l_L_115 C_C_leastStiff (c_C_leastStiff l p rj q q2 sm co hR.1 s w g) (emLC ..) (Or.inl ⟨_, _, _, _, rfl, rfl⟩) rfl rfl rfl (Nat.le_of_ble_eq_true rfl) ⟨rfl, rfl, Nat.le_of_ble_eq_true rfl, Nat.le_of_ble_eq_true rfl⟩ ⟨Nat.le_of_ble_eq_true rfl, Nat.le_of_ble_eq_true rfl⟩ (fun out hq => ?_)
  obtain ⟨s', w', g', q', q2', sm', co', rfl⟩ := hq
  refine Z_mem (mgLC ..) ?_
  refine Z_aload_n 2 rfl rfl rfl ?_
  refine Z_callVi (M' := M_M_leastStiff) 3 isLM rfl l_L_118 C_M_leastStiff (c_M_leastStiff l m av bl kw sm2 ma mf mw cj hR.2.1 he fa li sl be ov) (emLM ..) (Or.inl ⟨_, _, _, _, rfl, rfl⟩) rfl rfl rfl (Nat.le_of_ble_eq_true rfl) ⟨rfl, rfl, Nat.le_of_ble_eq_true rfl, Nat.le_of_ble_eq_true rfl⟩ ⟨Nat.le_of_ble_eq_true rfl, Nat.le_of_ble_eq_true rfl⟩ (fun out hq => ?_)
  obtain ⟨he', fa', li', sl', be', ov', rfl⟩ := hq
  refine Z_mem (mgLM ..) ?_
  refine Z_ci (Eq.symm ((lsti_c hA hT1 hT2 p.s).trans (by rw [hS]))) ?_
  refine Z_sameI 4 rfl (tgt := 1333) rfl ?_
  exact Z_nilI (kk _ _ _ _ _ _ _ _ _ _ _ _ _ _ _ _ _ _ _ _ _ _ _ _ (hR) hj)
def I_lw25 : List (Nat × Instr × Nat × Nat) := [(882, .aload_n 1, 1, 883), (883, .invokevirtual 119, 3, 886), (886, .aload_n 2, 1, 887), (887, .invokevirtual 122, 3, 890), (890, .if_icmp .eq 443, 3, 893)]
theorem D_lw25 : ∀ q ∈ I_lw25, decode code q.1 = .ok (q.2.1, q.2.2.1) ∧ q.1 + q.2.2.1 = q.2.2.2 := by decide +kernel
theorem lw_c25 (hi : 0 ≤ i ∧ i + 6 ≤ (L : Int)) (hL : L ≤ 3072) (hF : ∀ j, inI (F j)) (hR : Rel p m) (hj : TV rj.1) (kk : KK l nm L F i) : Z (XL l nm I_lw25) 47 1946 (eL L F p rj s w g q q2 sm co m he fa li sl be ov av bl kw sm2 ma mf mw cj) 882 [(0, .ref 0), (1, .ref 18), (2, .ref 45), (3, .int (iI i))] [] := by
  have hA := hR.2.2.1
  have hT1 := hR.1.1
  have hT2 := hR.2.1.1
  have h0 := hT1.1.1.1
  have hS := hR.2.2.2.1
  refine Z_aload_n 0 rfl rfl rfl ?_
  refine Z_callVi (M' := M_C_fastest) 1 isLC rfl l_L_119 C_C_fastest (c_C_fastest l p rj q q2 sm co hR.1 s w g) (emLC ..) (Or.inl ⟨_, _, _, _, rfl, rfl⟩) rfl rfl rfl (Nat.le_of_ble_eq_true rfl) ⟨rfl, rfl, Nat.le_of_ble_eq_true rfl, Nat.le_of_ble_eq_true rfl⟩ ⟨Nat.le_of_ble_eq_true rfl, Nat.le_of_ble_eq_true rfl⟩ (fun out hq => ?_)
  obtain ⟨s', w', g', q', q2', sm', co', rfl⟩ := hq
  refine Z_mem (mgLC ..) ?_
  refine Z_aload_n 2 rfl rfl rfl ?_
  refine Z_callVi (M' := M_M_fastest) 3 isLM rfl l_L_122 C_M_fastest (c_M_fastest l m av bl kw sm2 ma mf mw cj hR.2.1 he fa li sl be ov) (emLM ..) (Or.inl ⟨_, _, _, _, rfl, rfl⟩) rfl rfl rfl (Nat.le_of_ble_eq_true rfl) ⟨rfl, rfl, Nat.le_of_ble_eq_true rfl, Nat.le_of_ble_eq_true rfl⟩ ⟨Nat.le_of_ble_eq_true rfl, Nat.le_of_ble_eq_true rfl⟩ (fun out hq => ?_)
  obtain ⟨he', fa', li', sl', be', ov', rfl⟩ := hq
  refine Z_mem (mgLM ..) ?_
  refine Z_ci (Eq.symm ((gfas_c hA hT1 hT2 p.s).trans (by rw [hS]))) ?_
  refine Z_sameI 4 rfl (tgt := 1333) rfl ?_
  exact Z_nilI (kk _ _ _ _ _ _ _ _ _ _ _ _ _ _ _ _ _ _ _ _ _ _ _ _ (hR) hj)
def I_lw26 : List (Nat × Instr × Nat × Nat) := [(895, .aload_n 1, 1, 896), (896, .invokevirtual 123, 3, 899), (899, .aload_n 2, 1, 900), (900, .invokevirtual 126, 3, 903), (903, .if_icmp .eq 430, 3, 906)]
theorem D_lw26 : ∀ q ∈ I_lw26, decode code q.1 = .ok (q.2.1, q.2.2.1) ∧ q.1 + q.2.2.1 = q.2.2.2 := by decide +kernel
theorem lw_c26 (hi : 0 ≤ i ∧ i + 6 ≤ (L : Int)) (hL : L ≤ 3072) (hF : ∀ j, inI (F j)) (hR : Rel p m) (hj : TV rj.1) (kk : KK l nm L F i) : Z (XL l nm I_lw26) 47 1946 (eL L F p rj s w g q q2 sm co m he fa li sl be ov av bl kw sm2 ma mf mw cj) 895 [(0, .ref 0), (1, .ref 18), (2, .ref 45), (3, .int (iI i))] [] := by
  have hA := hR.2.2.1
  have hT1 := hR.1.1
  have hT2 := hR.2.1.1
  have h0 := hT1.1.1.1
  have hS := hR.2.2.2.1
  refine Z_aload_n 0 rfl rfl rfl ?_
  refine Z_callVi (M' := M_C_smoothed) 1 isLC rfl l_L_123 C_C_smoothed (c_C_smoothed l p rj w g sm hR.1 s q q2 co) (emLC ..) (Or.inl ⟨_, _, _, _, rfl, rfl⟩) rfl rfl rfl (Nat.le_of_ble_eq_true rfl) ⟨rfl, rfl, Nat.le_of_ble_eq_true rfl, Nat.le_of_ble_eq_true rfl⟩ ⟨Nat.le_of_ble_eq_true rfl, Nat.le_of_ble_eq_true rfl⟩ (fun out hq => ?_)
  obtain ⟨s', w', g', q', q2', sm', co', rfl⟩ := hq
  refine Z_mem (mgLC ..) ?_
  refine Z_aload_n 2 rfl rfl rfl ?_
  refine Z_callVi (M' := M_M_smoothed) 3 isLM rfl l_L_126 C_M_smoothed (c_M_smoothed l m sm2 ma mf mw cj hR.2.1 kw he fa li sl be ov av bl) (emLM ..) (Or.inl ⟨_, _, _, _, rfl, rfl⟩) rfl rfl rfl (Nat.le_of_ble_eq_true rfl) ⟨rfl, rfl, Nat.le_of_ble_eq_true rfl, Nat.le_of_ble_eq_true rfl⟩ ⟨Nat.le_of_ble_eq_true rfl, Nat.le_of_ble_eq_true rfl⟩ (fun out hq => ?_)
  obtain ⟨kw', he', fa', li', sl', be', ov', av', bl', rfl⟩ := hq
  refine Z_mem (mgLM ..) ?_
  refine Z_ci (Eq.symm (smF_c hA hT1 hT2)) ?_
  refine Z_sameI 4 rfl (tgt := 1333) rfl ?_
  exact Z_nilI (kk _ _ _ _ _ _ _ _ _ _ _ _ _ _ _ _ _ _ _ _ _ _ _ _ (hR) hj)
def I_lw27 : List (Nat × Instr × Nat × Nat) := [(908, .aload_n 1, 1, 909), (909, .aload_n 0, 1, 910), (910, .iload_n 3, 1, 911), (911, .iconst 1, 1, 912), (912, .iadd, 1, 913), (913, .iaload, 1, 914), (914, .invokevirtual 127, 3, 917), (917, .aload_n 2, 1, 918), (918, .aload_n 0, 1, 919), (919, .iload_n 3, 1, 920), (920, .iconst 1, 1, 921), (921, .iadd, 1, 922), (922, .iaload, 1, 923), (923, .invokevirtual 131, 3, 926), (926, .lcmp, 1, 927), (927, .ifCond .eq 406, 3, 930)]
theorem D_lw27 : ∀ q ∈ I_lw27, decode code q.1 = .ok (q.2.1, q.2.2.1) ∧ q.1 + q.2.2.1 = q.2.2.2 := by decide +kernel
theorem lw_c27 (hi : 0 ≤ i ∧ i + 6 ≤ (L : Int)) (hL : L ≤ 3072) (hF : ∀ j, inI (F j)) (hR : Rel p m) (hj : TV rj.1) (kk : KK l nm L F i) : Z (XL l nm I_lw27) 47 1946 (eL L F p rj s w g q q2 sm co m he fa li sl be ov av bl kw sm2 ma mf mw cj) 908 [(0, .ref 0), (1, .ref 18), (2, .ref 45), (3, .int (iI i))] [] := by
  have hA := hR.2.2.1
  have hT1 := hR.1.1
  have hT2 := hR.2.1.1
  have h0 := hT1.1.1.1
  have hS := hR.2.2.2.1
  refine Z_aload_n 0 rfl rfl rfl ?_
  refine Z_aload_n 1 rfl rfl rfl ?_
  refine Z_iload_n 2 rfl rfl rfl ?_
  refine Z_iconst 3 rfl ?_
  refine Z_iadd 4 rfl ?_
  refine Z_iaR 5 rfl rfl (by omega) (by omega) ?_
  refine Z_callVl (M' := M_C_sample) 6 isLC rfl l_L_127 C_C_sample (c_C_sample l p rj s w g q q2 sm co hR.1 (F (i + 1)) (hF _)) (emLC ..) (Or.inl ⟨_, _, _, _, rfl, rfl⟩) rfl rfl rfl (Nat.le_of_ble_eq_true rfl) ⟨rfl, rfl, Nat.le_of_ble_eq_true rfl, Nat.le_of_ble_eq_true rfl⟩ ⟨Nat.le_of_ble_eq_true rfl, Nat.le_of_ble_eq_true rfl⟩ (fun out hq => ?_)
  obtain ⟨s', rfl⟩ := hq
  refine Z_mem (mgLC ..) ?_
  refine Z_aload_n 7 rfl rfl rfl ?_
  refine Z_aload_n 8 rfl rfl rfl ?_
  refine Z_iload_n 9 rfl rfl rfl ?_
  refine Z_iconst 10 rfl ?_
  refine Z_iadd 11 rfl ?_
  refine Z_iaR 12 rfl rfl (by omega) (by omega) ?_
  refine Z_callVl (M' := M_M_sample) 13 isLM rfl l_L_131 C_M_sample (c_M_sample l m kw ma mf mw cj hR.2.1 (F (i + 1)) he fa li sl be ov av bl sm2 (hF _)) (emLM ..) (Or.inl ⟨_, _, _, _, rfl, rfl⟩) rfl rfl rfl (Nat.le_of_ble_eq_true rfl) ⟨rfl, rfl, Nat.le_of_ble_eq_true rfl, Nat.le_of_ble_eq_true rfl⟩ ⟨Nat.le_of_ble_eq_true rfl, Nat.le_of_ble_eq_true rfl⟩ (fun out hq => ?_)
  obtain ⟨he', fa', li', sl', be', ov', rfl⟩ := hq
  refine Z_mem (mgLM ..) ?_
  refine Z_cl (Eq.symm ((sampleF_c hA hT1 hT2 p.s (F (i + 1))).trans (by rw [hS]))) ?_
  refine Z_sameL 14 rfl rfl (tgt := 1333) rfl ?_
  exact Z_nilI (kk _ _ _ _ _ _ _ _ _ _ _ _ _ _ _ _ _ _ _ _ _ _ _ _ (hR) hj)
def I_lw28 : List (Nat × Instr × Nat × Nat) := [(932, .aload_n 1, 1, 933), (933, .aload_n 0, 1, 934), (934, .iload_n 3, 1, 935), (935, .iconst 1, 1, 936), (936, .iadd, 1, 937), (937, .iaload, 1, 938), (938, .aload_n 0, 1, 939), (939, .iload_n 3, 1, 940), (940, .iconst 2, 1, 941), (941, .iadd, 1, 942), (942, .iaload, 1, 943), (943, .invokevirtual 132, 3, 946), (946, .aload_n 2, 1, 947), (947, .aload_n 0, 1, 948), (948, .iload_n 3, 1, 949), (949, .iconst 1, 1, 950), (950, .iadd, 1, 951), (951, .iaload, 1, 952), (952, .aload_n 0, 1, 953), (953, .iload_n 3, 1, 954), (954, .iconst 2, 1, 955), (955, .iadd, 1, 956), (956, .iaload, 1, 957), (957, .invokevirtual 136, 3, 960), (960, .lcmp, 1, 961), (961, .ifCond .eq 372, 3, 964)]
theorem D_lw28 : ∀ q ∈ I_lw28, decode code q.1 = .ok (q.2.1, q.2.2.1) ∧ q.1 + q.2.2.1 = q.2.2.2 := by decide +kernel
theorem lw_c28 (hi : 0 ≤ i ∧ i + 6 ≤ (L : Int)) (hL : L ≤ 3072) (hF : ∀ j, inI (F j)) (hR : Rel p m) (hj : TV rj.1) (kk : KK l nm L F i) : Z (XL l nm I_lw28) 47 1946 (eL L F p rj s w g q q2 sm co m he fa li sl be ov av bl kw sm2 ma mf mw cj) 932 [(0, .ref 0), (1, .ref 18), (2, .ref 45), (3, .int (iI i))] [] := by
  have hA := hR.2.2.1
  have hT1 := hR.1.1
  have hT2 := hR.2.1.1
  have h0 := hT1.1.1.1
  have hS := hR.2.2.2.1
  refine Z_aload_n 0 rfl rfl rfl ?_
  refine Z_aload_n 1 rfl rfl rfl ?_
  refine Z_iload_n 2 rfl rfl rfl ?_
  refine Z_iconst 3 rfl ?_
  refine Z_iadd 4 rfl ?_
  refine Z_iaR 5 rfl rfl (by omega) (by omega) ?_
  refine Z_aload_n 6 rfl rfl rfl ?_
  refine Z_iload_n 7 rfl rfl rfl ?_
  refine Z_iconst 8 rfl ?_
  refine Z_iadd 9 rfl ?_
  refine Z_iaR 10 rfl rfl (by omega) (by omega) ?_
  refine Z_callVl (M' := M_C_error) 11 isLC rfl l_L_132 C_C_error (c_C_error l p rj g q2 co hR.1 s w sm q (F (i + 1)) (F (i + 2)) (hF _) (hF _)) (emLC ..) (Or.inl ⟨_, _, _, _, rfl, rfl⟩) rfl rfl rfl (Nat.le_of_ble_eq_true rfl) ⟨rfl, rfl, Nat.le_of_ble_eq_true rfl, Nat.le_of_ble_eq_true rfl⟩ ⟨Nat.le_of_ble_eq_true rfl, Nat.le_of_ble_eq_true rfl⟩ (fun out hq => ?_)
  obtain ⟨s', w', g', q', q2', sm', co', rfl⟩ := hq
  refine Z_mem (mgLC ..) ?_
  refine Z_aload_n 12 rfl rfl rfl ?_
  refine Z_aload_n 13 rfl rfl rfl ?_
  refine Z_iload_n 14 rfl rfl rfl ?_
  refine Z_iconst 15 rfl ?_
  refine Z_iadd 16 rfl ?_
  refine Z_iaR 17 rfl rfl (by omega) (by omega) ?_
  refine Z_aload_n 18 rfl rfl rfl ?_
  refine Z_iload_n 19 rfl rfl rfl ?_
  refine Z_iconst 20 rfl ?_
  refine Z_iadd 21 rfl ?_
  refine Z_iaR 22 rfl rfl (by omega) (by omega) ?_
  refine Z_callVl (M' := M_M_error) 23 isLM rfl l_L_136 C_M_error (c_M_error l m kw ma mf mw cj hR.2.1 (F (i + 1)) (F (i + 2)) he fa li sl be ov av bl sm2 (hF _) (hF _)) (emLM ..) (Or.inl ⟨_, _, _, _, rfl, rfl⟩) rfl rfl rfl (Nat.le_of_ble_eq_true rfl) ⟨rfl, rfl, Nat.le_of_ble_eq_true rfl, Nat.le_of_ble_eq_true rfl⟩ ⟨Nat.le_of_ble_eq_true rfl, Nat.le_of_ble_eq_true rfl⟩ (fun out hq => ?_)
  obtain ⟨he', fa', li', sl', be', ov', av', bl', sm', rfl⟩ := hq
  refine Z_mem (mgLM ..) ?_
  refine Z_cl (Eq.symm ((errF_c hA hT1 hT2 p.s (F (i + 1)) (F (i + 2))).trans (by rw [hS]))) ?_
  refine Z_sameL 24 rfl rfl (tgt := 1333) rfl ?_
  exact Z_nilI (kk _ _ _ _ _ _ _ _ _ _ _ _ _ _ _ _ _ _ _ _ _ _ _ _ (hR) hj)
def I_lw29 : List (Nat × Instr × Nat × Nat) := [(966, .aload_n 1, 1, 967), (967, .aload_n 0, 1, 968), (968, .iload_n 3, 1, 969), (969, .iconst 1, 1, 970), (970, .iadd, 1, 971), (971, .iaload, 1, 972), (972, .invokevirtual 137, 3, 975), (975, .aload_n 2, 1, 976), (976, .aload_n 0, 1, 977), (977, .iload_n 3, 1, 978), (978, .iconst 1, 1, 979), (979, .iadd, 1, 980), (980, .iaload, 1, 981), (981, .invokevirtual 140, 3, 984), (984, .if_icmp .eq 349, 3, 987)]
theorem D_lw29 : ∀ q ∈ I_lw29, decode code q.1 = .ok (q.2.1, q.2.2.1) ∧ q.1 + q.2.2.1 = q.2.2.2 := by decide +kernel
theorem lw_c29 (hi : 0 ≤ i ∧ i + 6 ≤ (L : Int)) (hL : L ≤ 3072) (hF : ∀ j, inI (F j)) (hR : Rel p m) (hj : TV rj.1) (kk : KK l nm L F i) : Z (XL l nm I_lw29) 47 1946 (eL L F p rj s w g q q2 sm co m he fa li sl be ov av bl kw sm2 ma mf mw cj) 966 [(0, .ref 0), (1, .ref 18), (2, .ref 45), (3, .int (iI i))] [] := by
  have hA := hR.2.2.1
  have hT1 := hR.1.1
  have hT2 := hR.2.1.1
  have h0 := hT1.1.1.1
  have hS := hR.2.2.2.1
  refine Z_aload_n 0 rfl rfl rfl ?_
  refine Z_aload_n 1 rfl rfl rfl ?_
  refine Z_iload_n 2 rfl rfl rfl ?_
  refine Z_iconst 3 rfl ?_
  refine Z_iadd 4 rfl ?_
  refine Z_iaR 5 rfl rfl (by omega) (by omega) ?_
  refine Z_callVi (M' := M_C_widest) 6 isLC rfl l_L_137 C_C_widest (c_C_widest l p rj g q2 co hR.1 s w sm q (F (i + 1)) (hF _)) (emLC ..) (Or.inl ⟨_, _, _, _, rfl, rfl⟩) rfl rfl rfl (Nat.le_of_ble_eq_true rfl) ⟨rfl, rfl, Nat.le_of_ble_eq_true rfl, Nat.le_of_ble_eq_true rfl⟩ ⟨Nat.le_of_ble_eq_true rfl, Nat.le_of_ble_eq_true rfl⟩ (fun out hq => ?_)
  obtain ⟨s', w', g', q', q2', sm', co', rfl⟩ := hq
  refine Z_mem (mgLC ..) ?_
  refine Z_aload_n 7 rfl rfl rfl ?_
  refine Z_aload_n 8 rfl rfl rfl ?_
  refine Z_iload_n 9 rfl rfl rfl ?_
  refine Z_iconst 10 rfl ?_
  refine Z_iadd 11 rfl ?_
  refine Z_iaR 12 rfl rfl (by omega) (by omega) ?_
  refine Z_callVi (M' := M_M_widest) 13 isLM rfl l_L_140 C_M_widest (c_M_widest l m kw ma mf mw cj hR.2.1 (F (i + 1)) he fa li sl be ov av bl sm2 (hF _)) (emLM ..) (Or.inl ⟨_, _, _, _, rfl, rfl⟩) rfl rfl rfl (Nat.le_of_ble_eq_true rfl) ⟨rfl, rfl, Nat.le_of_ble_eq_true rfl, Nat.le_of_ble_eq_true rfl⟩ ⟨Nat.le_of_ble_eq_true rfl, Nat.le_of_ble_eq_true rfl⟩ (fun out hq => ?_)
  obtain ⟨he', fa', li', sl', be', ov', av', bl', sm', rfl⟩ := hq
  refine Z_mem (mgLM ..) ?_
  refine Z_ci (Eq.symm ((widF_c hA hT1 hT2 p.s (F (i + 1))).trans (by rw [hS]))) ?_
  refine Z_sameI 14 rfl (tgt := 1333) rfl ?_
  exact Z_nilI (kk _ _ _ _ _ _ _ _ _ _ _ _ _ _ _ _ _ _ _ _ _ _ _ _ (hR) hj)
end LC
