/-! the law: its loop -/
section LP
variable (l : Launch) (nm : String) (L : Nat) (F : Int → Int)
def I_lwL : List (Nat × Instr × Nat × Nat) := [(18, .iload_n 3, 1, 19), (19, .aload_n 0, 1, 20), (20, .arraylength, 1, 21), (21, .bipush 6, 2, 23), (23, .isub, 1, 24), (24, .if_icmp .gt 1315, 3, 27), (27, .aload_n 0, 1, 28), (28, .iload_n 3, 1, 29), (29, .iaload, 1, 30), (30, .bipush 63, 2, 32), (32, .iand, 1, 33), (33, .tableswitch 1300 0 40 #[179, 222, 235, 278, 311, 344, 367, 380, 403, 426, 439, 493, 537, 560, 583, 606, 650, 694, 738, 761, 774, 787, 810, 823, 836, 849, 862, 875, 899, 933, 956, 1019, 1072, 1095, 1108, 1121, 1134, 1167, 1240, 1274, 1287], 179, 212), (1333, .iinc 3 6, 3, 1336), (1336, .goto (-1318), 3, 1339), (1339, .iconst 1, 1, 1340), (1340, .ireturn, 1, 1341)]
theorem D_lwL : ∀ q ∈ I_lwL, decode code q.1 = .ok (q.2.1, q.2.2.1) ∧ q.1 + q.2.2.1 = q.2.2.2 := by decide +kernel
theorem lw_loop (hL : L ≤ 3072) (hF : ∀ j, inI (F j)) : ∀ (d : Nat) (i : Int) (p : PS) (rj : RJ) (s : SS) (w : WW) (g : RR) (q q2 : Int × Int) (sm co : Int → Int) (m : MP) (he fa li sl be ov av bl : Int) (kw sm2 : Int → Int) (ma mf mw : Int) (cj : TT), 0 ≤ i → i ≤ 3100 → (3200 : Int) - i < d → Rel p m → TV rj.1 → Z (XL l nm []) 47 1946 (eL L F p rj s w g q q2 sm co m he fa li sl be ov av bl kw sm2 ma mf mw cj) 18 [(0, .ref 0), (1, .ref 18), (2, .ref 45), (3, .int (iI i))] [] := by
  intro d
  induction d with
  | zero => intro i p rj s w g q q2 sm co m he fa li sl be ov av bl kw sm2 ma mf mw cj h1 h2 h3; omega
  | succ d ih =>
    intro i p rj s w g q q2 sm co m he fa li sl be ov av bl kw sm2 ma mf mw cj h1 h2 h3 hR hj
    refine Z_subI D_lwL ?_
    refine Z_iload_n 0 rfl rfl rfl ?_
    refine Z_aload_n 1 rfl rfl rfl ?_
    refine Z_alR 2 rfl rfl ?_
    refine Z_bipush 3 rfl rfl ?_
    refine Z_isub 4 rfl ?_
    refine Z_icmp_gt 5 rfl (tgt := 1339) rfl (by omega) (by omega) (fun c1 => ?_) (fun c1 => ?_)
    · refine Z_iconst 14 rfl ?_
      refine Z_zret 15 rfl rfl rfl ⟨Nat.le_refl _, Nat.le_refl _⟩ ?_
      exact ⟨rfl, trivial⟩
    · have hkk : KK l nm L F i := by
        intro p rj s w g q q2 sm co m he fa li sl be ov av bl kw sm2 ma mf mw cj hR hj
        refine Z_subI D_lwL ?_
        refine Z_iinc 12 rfl rfl (Nat.le_of_ble_eq_true rfl) (lv' := [(3, .int _), (0, .ref _), (1, .ref _), (2, .ref _)]) rfl ?_
        refine Z_goto 13 rfl (tgt := 18) rfl ?_
        refine Z_pick [0, 1, 2, 3] (lv' := [(0, .ref _), (1, .ref _), (2, .ref _), (3, .int _)]) rfl ?_
        exact Z_nilI (ih (i + 6) _ _ _ _ _ _ _ _ _ _ _ _ _ _ _ _ _ _ _ _ _ _ _ _ (by omega) (by omega) (by omega) hR hj)
      refine Z_aload_n 6 rfl rfl rfl ?_
      refine Z_iload_n 7 rfl rfl rfl ?_
      refine Z_iaR 8 rfl rfl (by omega) (by omega) ?_
      refine Z_bipush 9 rfl rfl ?_
      refine Z_iand 10 rfl ?_
      refine Z_ti (iI_o _).symm ?_
      have hx := iI_in (iI (F i) &&& iI 63)
      generalize (iI (F i) &&& iI 63).toInt = x at hx ⊢
      rcases Classical.em (x < 0 ∨ 40 < x) with cs | cs
      · refine Z_tabOut 11 rfl hx cs (tgt := 1333) rfl ?_
        exact Z_nilI (hkk _ _ _ _ _ _ _ _ _ _ _ _ _ _ _ _ _ _ _ _ _ _ _ _ hR hj)
      rcases (show x = 0 ∨ x = 1 ∨ x = 2 ∨ x = 3 ∨ x = 4 ∨ x = 5 ∨ x = 6 ∨ x = 7 ∨ x = 8 ∨ x = 9 ∨ x = 10 ∨ x = 11 ∨ x = 12 ∨ x = 13 ∨ x = 14 ∨ x = 15 ∨ x = 16 ∨ x = 17 ∨ x = 18 ∨ x = 19 ∨ x = 20 ∨ x = 21 ∨ x = 22 ∨ x = 23 ∨ x = 24 ∨ x = 25 ∨ x = 26 ∨ x = 27 ∨ x = 28 ∨ x = 29 ∨ x = 30 ∨ x = 31 ∨ x = 32 ∨ x = 33 ∨ x = 34 ∨ x = 35 ∨ x = 36 ∨ x = 37 ∨ x = 38 ∨ x = 39 ∨ x = 40 by omega) with cs | cs | cs | cs | cs | cs | cs | cs | cs | cs | cs | cs | cs | cs | cs | cs | cs | cs | cs | cs | cs | cs | cs | cs | cs | cs | cs | cs | cs | cs | cs | cs | cs | cs | cs | cs | cs | cs | cs | cs | cs
      · refine Z_ci cs ?_
        refine Z_tabIn 11 rfl (by decide) (by decide) (by decide) (off := 179) rfl (tgt := 212) rfl ?_
        exact Z_subI D_lw0 (lw_c0 l nm L F i _ _ _ _ _ _ _ _ _ _ _ _ _ _ _ _ _ _ _ _ _ _ _ _ ⟨h1, by omega⟩ hL hF hR hj hkk)
      · refine Z_ci cs ?_
        refine Z_tabIn 11 rfl (by decide) (by decide) (by decide) (off := 222) rfl (tgt := 255) rfl ?_
        exact Z_subI D_lw1 (lw_c1 l nm L F i _ _ _ _ _ _ _ _ _ _ _ _ _ _ _ _ _ _ _ _ _ _ _ _ ⟨h1, by omega⟩ hL hF hR hj hkk)
      · refine Z_ci cs ?_
        refine Z_tabIn 11 rfl (by decide) (by decide) (by decide) (off := 235) rfl (tgt := 268) rfl ?_
        exact Z_subI D_lw2 (lw_c2 l nm L F i _ _ _ _ _ _ _ _ _ _ _ _ _ _ _ _ _ _ _ _ _ _ _ _ ⟨h1, by omega⟩ hL hF hR hj hkk)
      · refine Z_ci cs ?_
        refine Z_tabIn 11 rfl (by decide) (by decide) (by decide) (off := 278) rfl (tgt := 311) rfl ?_
        exact Z_subI D_lw3 (lw_c3 l nm L F i _ _ _ _ _ _ _ _ _ _ _ _ _ _ _ _ _ _ _ _ _ _ _ _ ⟨h1, by omega⟩ hL hF hR hj hkk)
      · refine Z_ci cs ?_
        refine Z_tabIn 11 rfl (by decide) (by decide) (by decide) (off := 311) rfl (tgt := 344) rfl ?_
        exact Z_subI D_lw4 (lw_c4 l nm L F i _ _ _ _ _ _ _ _ _ _ _ _ _ _ _ _ _ _ _ _ _ _ _ _ ⟨h1, by omega⟩ hL hF hR hj hkk)
      · refine Z_ci cs ?_
        refine Z_tabIn 11 rfl (by decide) (by decide) (by decide) (off := 344) rfl (tgt := 377) rfl ?_
        exact Z_subI D_lw5 (lw_c5 l nm L F i _ _ _ _ _ _ _ _ _ _ _ _ _ _ _ _ _ _ _ _ _ _ _ _ ⟨h1, by omega⟩ hL hF hR hj hkk)
      · refine Z_ci cs ?_
        refine Z_tabIn 11 rfl (by decide) (by decide) (by decide) (off := 367) rfl (tgt := 400) rfl ?_
        exact Z_subI D_lw6 (lw_c6 l nm L F i _ _ _ _ _ _ _ _ _ _ _ _ _ _ _ _ _ _ _ _ _ _ _ _ ⟨h1, by omega⟩ hL hF hR hj hkk)
      · refine Z_ci cs ?_
        refine Z_tabIn 11 rfl (by decide) (by decide) (by decide) (off := 380) rfl (tgt := 413) rfl ?_
        exact Z_subI D_lw7 (lw_c7 l nm L F i _ _ _ _ _ _ _ _ _ _ _ _ _ _ _ _ _ _ _ _ _ _ _ _ ⟨h1, by omega⟩ hL hF hR hj hkk)
      · refine Z_ci cs ?_
        refine Z_tabIn 11 rfl (by decide) (by decide) (by decide) (off := 403) rfl (tgt := 436) rfl ?_
        exact Z_subI D_lw8 (lw_c8 l nm L F i _ _ _ _ _ _ _ _ _ _ _ _ _ _ _ _ _ _ _ _ _ _ _ _ ⟨h1, by omega⟩ hL hF hR hj hkk)
      · refine Z_ci cs ?_
        refine Z_tabIn 11 rfl (by decide) (by decide) (by decide) (off := 426) rfl (tgt := 459) rfl ?_
        exact Z_subI D_lw9 (lw_c9 l nm L F i _ _ _ _ _ _ _ _ _ _ _ _ _ _ _ _ _ _ _ _ _ _ _ _ ⟨h1, by omega⟩ hL hF hR hj hkk)
      · refine Z_ci cs ?_
        refine Z_tabIn 11 rfl (by decide) (by decide) (by decide) (off := 439) rfl (tgt := 472) rfl ?_
        exact Z_subI D_lw10 (lw_c10 l nm L F i _ _ _ _ _ _ _ _ _ _ _ _ _ _ _ _ _ _ _ _ _ _ _ _ ⟨h1, by omega⟩ hL hF hR hj hkk)
      · refine Z_ci cs ?_
        refine Z_tabIn 11 rfl (by decide) (by decide) (by decide) (off := 493) rfl (tgt := 526) rfl ?_
        exact Z_subI D_lw11 (lw_c11 l nm L F i _ _ _ _ _ _ _ _ _ _ _ _ _ _ _ _ _ _ _ _ _ _ _ _ ⟨h1, by omega⟩ hL hF hR hj hkk)
      · refine Z_ci cs ?_
        refine Z_tabIn 11 rfl (by decide) (by decide) (by decide) (off := 537) rfl (tgt := 570) rfl ?_
        exact Z_subI D_lw12 (lw_c12 l nm L F i _ _ _ _ _ _ _ _ _ _ _ _ _ _ _ _ _ _ _ _ _ _ _ _ ⟨h1, by omega⟩ hL hF hR hj hkk)
      · refine Z_ci cs ?_
        refine Z_tabIn 11 rfl (by decide) (by decide) (by decide) (off := 560) rfl (tgt := 593) rfl ?_
        exact Z_subI D_lw13 (lw_c13 l nm L F i _ _ _ _ _ _ _ _ _ _ _ _ _ _ _ _ _ _ _ _ _ _ _ _ ⟨h1, by omega⟩ hL hF hR hj hkk)
      · refine Z_ci cs ?_
        refine Z_tabIn 11 rfl (by decide) (by decide) (by decide) (off := 583) rfl (tgt := 616) rfl ?_
        exact Z_subI D_lw14 (lw_c14 l nm L F i _ _ _ _ _ _ _ _ _ _ _ _ _ _ _ _ _ _ _ _ _ _ _ _ ⟨h1, by omega⟩ hL hF hR hj hkk)
      · refine Z_ci cs ?_
        refine Z_tabIn 11 rfl (by decide) (by decide) (by decide) (off := 606) rfl (tgt := 639) rfl ?_
        exact Z_subI D_lw15 (lw_c15 l nm L F i _ _ _ _ _ _ _ _ _ _ _ _ _ _ _ _ _ _ _ _ _ _ _ _ ⟨h1, by omega⟩ hL hF hR hj hkk)
      · refine Z_ci cs ?_
        refine Z_tabIn 11 rfl (by decide) (by decide) (by decide) (off := 650) rfl (tgt := 683) rfl ?_
        exact Z_subI D_lw16 (lw_c16 l nm L F i _ _ _ _ _ _ _ _ _ _ _ _ _ _ _ _ _ _ _ _ _ _ _ _ ⟨h1, by omega⟩ hL hF hR hj hkk)
      · refine Z_ci cs ?_
        refine Z_tabIn 11 rfl (by decide) (by decide) (by decide) (off := 694) rfl (tgt := 727) rfl ?_
        exact Z_subI D_lw17 (lw_c17 l nm L F i _ _ _ _ _ _ _ _ _ _ _ _ _ _ _ _ _ _ _ _ _ _ _ _ ⟨h1, by omega⟩ hL hF hR hj hkk)
      · refine Z_ci cs ?_
        refine Z_tabIn 11 rfl (by decide) (by decide) (by decide) (off := 738) rfl (tgt := 771) rfl ?_
        exact Z_subI D_lw18 (lw_c18 l nm L F i _ _ _ _ _ _ _ _ _ _ _ _ _ _ _ _ _ _ _ _ _ _ _ _ ⟨h1, by omega⟩ hL hF hR hj hkk)
      · refine Z_ci cs ?_
        refine Z_tabIn 11 rfl (by decide) (by decide) (by decide) (off := 761) rfl (tgt := 794) rfl ?_
        exact Z_subI D_lw19 (lw_c19 l nm L F i _ _ _ _ _ _ _ _ _ _ _ _ _ _ _ _ _ _ _ _ _ _ _ _ ⟨h1, by omega⟩ hL hF hR hj hkk)
      · refine Z_ci cs ?_
        refine Z_tabIn 11 rfl (by decide) (by decide) (by decide) (off := 774) rfl (tgt := 807) rfl ?_
        exact Z_subI D_lw20 (lw_c20 l nm L F i _ _ _ _ _ _ _ _ _ _ _ _ _ _ _ _ _ _ _ _ _ _ _ _ ⟨h1, by omega⟩ hL hF hR hj hkk)
      · refine Z_ci cs ?_
        refine Z_tabIn 11 rfl (by decide) (by decide) (by decide) (off := 787) rfl (tgt := 820) rfl ?_
        exact Z_subI D_lw21 (lw_c21 l nm L F i _ _ _ _ _ _ _ _ _ _ _ _ _ _ _ _ _ _ _ _ _ _ _ _ ⟨h1, by omega⟩ hL hF hR hj hkk)
      · refine Z_ci cs ?_
        refine Z_tabIn 11 rfl (by decide) (by decide) (by decide) (off := 810) rfl (tgt := 843) rfl ?_
        exact Z_subI D_lw22 (lw_c22 l nm L F i _ _ _ _ _ _ _ _ _ _ _ _ _ _ _ _ _ _ _ _ _ _ _ _ ⟨h1, by omega⟩ hL hF hR hj hkk)
      · refine Z_ci cs ?_
        refine Z_tabIn 11 rfl (by decide) (by decide) (by decide) (off := 823) rfl (tgt := 856) rfl ?_
        exact Z_subI D_lw23 (lw_c23 l nm L F i _ _ _ _ _ _ _ _ _ _ _ _ _ _ _ _ _ _ _ _ _ _ _ _ ⟨h1, by omega⟩ hL hF hR hj hkk)
      · refine Z_ci cs ?_
        refine Z_tabIn 11 rfl (by decide) (by decide) (by decide) (off := 836) rfl (tgt := 869) rfl ?_
        exact Z_subI D_lw24 (lw_c24 l nm L F i _ _ _ _ _ _ _ _ _ _ _ _ _ _ _ _ _ _ _ _ _ _ _ _ ⟨h1, by omega⟩ hL hF hR hj hkk)
      · refine Z_ci cs ?_
        refine Z_tabIn 11 rfl (by decide) (by decide) (by decide) (off := 849) rfl (tgt := 882) rfl ?_
        exact Z_subI D_lw25 (lw_c25 l nm L F i _ _ _ _ _ _ _ _ _ _ _ _ _ _ _ _ _ _ _ _ _ _ _ _ ⟨h1, by omega⟩ hL hF hR hj hkk)
      · refine Z_ci cs ?_
        refine Z_tabIn 11 rfl (by decide) (by decide) (by decide) (off := 862) rfl (tgt := 895) rfl ?_
        exact Z_subI D_lw26 (lw_c26 l nm L F i _ _ _ _ _ _ _ _ _ _ _ _ _ _ _ _ _ _ _ _ _ _ _ _ ⟨h1, by omega⟩ hL hF hR hj hkk)
      · refine Z_ci cs ?_
        refine Z_tabIn 11 rfl (by decide) (by decide) (by decide) (off := 875) rfl (tgt := 908) rfl ?_
        exact Z_subI D_lw27 (lw_c27 l nm L F i _ _ _ _ _ _ _ _ _ _ _ _ _ _ _ _ _ _ _ _ _ _ _ _ ⟨h1, by omega⟩ hL hF hR hj hkk)
      · refine Z_ci cs ?_
        refine Z_tabIn 11 rfl (by decide) (by decide) (by decide) (off := 899) rfl (tgt := 932) rfl ?_
        exact Z_subI D_lw28 (lw_c28 l nm L F i _ _ _ _ _ _ _ _ _ _ _ _ _ _ _ _ _ _ _ _ _ _ _ _ ⟨h1, by omega⟩ hL hF hR hj hkk)
      · refine Z_ci cs ?_
        refine Z_tabIn 11 rfl (by decide) (by decide) (by decide) (off := 933) rfl (tgt := 966) rfl ?_
        exact Z_subI D_lw29 (lw_c29 l nm L F i _ _ _ _ _ _ _ _ _ _ _ _ _ _ _ _ _ _ _ _ _ _ _ _ ⟨h1, by omega⟩ hL hF hR hj hkk)
      · refine Z_ci cs ?_
        refine Z_tabIn 11 rfl (by decide) (by decide) (by decide) (off := 956) rfl (tgt := 989) rfl ?_
        exact Z_subI D_lw30 (lw_c30 l nm L F i _ _ _ _ _ _ _ _ _ _ _ _ _ _ _ _ _ _ _ _ _ _ _ _ ⟨h1, by omega⟩ hL hF hR hj hkk)
      · refine Z_ci cs ?_
        refine Z_tabIn 11 rfl (by decide) (by decide) (by decide) (off := 1019) rfl (tgt := 1052) rfl ?_
        exact Z_subI D_lw31 (lw_c31 l nm L F i _ _ _ _ _ _ _ _ _ _ _ _ _ _ _ _ _ _ _ _ _ _ _ _ ⟨h1, by omega⟩ hL hF hR hj hkk)
      · refine Z_ci cs ?_
        refine Z_tabIn 11 rfl (by decide) (by decide) (by decide) (off := 1072) rfl (tgt := 1105) rfl ?_
        exact Z_subI D_lw32 (lw_c32 l nm L F i _ _ _ _ _ _ _ _ _ _ _ _ _ _ _ _ _ _ _ _ _ _ _ _ ⟨h1, by omega⟩ hL hF hR hj hkk)
      · refine Z_ci cs ?_
        refine Z_tabIn 11 rfl (by decide) (by decide) (by decide) (off := 1095) rfl (tgt := 1128) rfl ?_
        exact Z_subI D_lw33 (lw_c33 l nm L F i _ _ _ _ _ _ _ _ _ _ _ _ _ _ _ _ _ _ _ _ _ _ _ _ ⟨h1, by omega⟩ hL hF hR hj hkk)
      · refine Z_ci cs ?_
        refine Z_tabIn 11 rfl (by decide) (by decide) (by decide) (off := 1108) rfl (tgt := 1141) rfl ?_
        exact Z_subI D_lw34 (lw_c34 l nm L F i _ _ _ _ _ _ _ _ _ _ _ _ _ _ _ _ _ _ _ _ _ _ _ _ ⟨h1, by omega⟩ hL hF hR hj hkk)
      · refine Z_ci cs ?_
        refine Z_tabIn 11 rfl (by decide) (by decide) (by decide) (off := 1121) rfl (tgt := 1154) rfl ?_
        exact Z_subI D_lw35 (lw_c35 l nm L F i _ _ _ _ _ _ _ _ _ _ _ _ _ _ _ _ _ _ _ _ _ _ _ _ ⟨h1, by omega⟩ hL hF hR hj hkk)
      · refine Z_ci cs ?_
        refine Z_tabIn 11 rfl (by decide) (by decide) (by decide) (off := 1134) rfl (tgt := 1167) rfl ?_
        exact Z_subI D_lw36 (lw_c36 l nm L F i _ _ _ _ _ _ _ _ _ _ _ _ _ _ _ _ _ _ _ _ _ _ _ _ ⟨h1, by omega⟩ hL hF hR hj hkk)
      · refine Z_ci cs ?_
        refine Z_tabIn 11 rfl (by decide) (by decide) (by decide) (off := 1167) rfl (tgt := 1200) rfl ?_
        exact Z_subI D_lw37 (lw_c37 l nm L F i _ _ _ _ _ _ _ _ _ _ _ _ _ _ _ _ _ _ _ _ _ _ _ _ ⟨h1, by omega⟩ hL hF hR hj hkk)
      · refine Z_ci cs ?_
        refine Z_tabIn 11 rfl (by decide) (by decide) (by decide) (off := 1240) rfl (tgt := 1273) rfl ?_
        exact Z_subI D_lw38 (lw_c38 l nm L F i _ _ _ _ _ _ _ _ _ _ _ _ _ _ _ _ _ _ _ _ _ _ _ _ ⟨h1, by omega⟩ hL hF hR hj hkk)
      · refine Z_ci cs ?_
        refine Z_tabIn 11 rfl (by decide) (by decide) (by decide) (off := 1274) rfl (tgt := 1307) rfl ?_
        exact Z_subI D_lw39 (lw_c39 l nm L F i _ _ _ _ _ _ _ _ _ _ _ _ _ _ _ _ _ _ _ _ _ _ _ _ ⟨h1, by omega⟩ hL hF hR hj hkk)
      · refine Z_ci cs ?_
        refine Z_tabIn 11 rfl (by decide) (by decide) (by decide) (off := 1287) rfl (tgt := 1320) rfl ?_
        exact Z_subI D_lw40 (lw_c40 l nm L F i _ _ _ _ _ _ _ _ _ _ _ _ _ _ _ _ _ _ _ _ _ _ _ _ ⟨h1, by omega⟩ hL hF hR hj hkk)
end LP
