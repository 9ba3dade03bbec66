/-! Reader -/
def eRd (b : Int → Int) (n : Int) (rt : TT) (pla pcs fau unf cau : Int) : List zE := [
  zO 2 [.ref 1, .int (iI n), .ref 2, .int (iI pla), .int (iI pcs), .int (iI fau), .int (iI unf), .int (iI cau)], aI 120 b,
  zO 5 [.ref 3, .ref 4, .ref 5, .int (iI rt.2.2.2)], aI 12 rt.1, aI 12 rt.2.1, aI 12 rt.2.2.1,
  zT [("CamPieces", "LEAST_SETTINGS", "[I", .ref 20), ("CamPieces", "MOST_SETTINGS", "[I", .ref 21), ("CamPieces", "FIRST_SETTINGS", "[I", .ref 22), ("java/lang/String", "COMPACT_STRINGS", "Z", .int (iI 1))],
  zS 0 13, zS 1 14, zS 2 15, zS 3 16, zS 4 17, zS 5 18,
  aB 5 (stB 0), aB 4 (stB 1), aB 5 (stB 2), aB 4 (stB 3), aB 5 (stB 4), aB 7 (stB 5), zU, aR 6 leF, aR 6 moF, aR 6 fiF]
def isD : List Nat := [0, 1, 2, 3, 4, 5, 6, 7, 8, 9, 10, 11, 12, 13, 14, 15, 16, 17, 18, 19, 20, 21, 22]
theorem emD (b : Int → Int) (n : Int) (rt : TT) (pla pcs fau unf cau : Int) : zEmb isD (eRd b n rt pla pcs fau unf cau) (eRd b n rt pla pcs fau unf cau) := ⟨by decide +kernel, (zEL.c (Or.inl rfl) (zEL.c (Or.inl rfl) (zEL.c (Or.inl rfl) (zEL.c (Or.inl rfl) (zEL.c (Or.inl rfl) (zEL.c (Or.inl rfl) (zEL.c (Or.inl rfl) (zEL.c (Or.inl rfl) (zEL.c (Or.inl rfl) (zEL.c (Or.inl rfl) (zEL.c (Or.inl rfl) (zEL.c (Or.inl rfl) (zEL.c (Or.inl rfl) (zEL.c (Or.inl rfl) (zEL.c (Or.inl rfl) (zEL.c (Or.inl rfl) (zEL.c (Or.inl rfl) (zEL.c (Or.inl rfl) (zEL.c (Or.inl rfl) (zEL.c (Or.inl rfl) (zEL.c (Or.inl rfl) (zEL.c (Or.inl rfl) (zEL.c (Or.inl rfl) zEL.n)))))))))))))))))))))))⟩
theorem isD_at : ∀ j, j < isD.length → isD[j]? = some j := by decide +kernel
theorem isD_nd : isD.Nodup := by decide +kernel
theorem mgD (b b' : Int → Int) (n n' : Int) (rt rt' : TT) (pla pla' pcs pcs' fau fau' unf unf' cau cau' : Int) : zMg (zr isD) isD (eRd b' n' rt' pla' pcs' fau' unf' cau') (eRd b n rt pla pcs fau unf cau) = eRd b' n' rt' pla' pcs' fau' unf' cau' :=
  mg_all isD_at rfl isD_nd ⟨⟨rfl, fun z => by cases z⟩, ⟨⟨rfl, fun z => by cases z⟩, ⟨⟨rfl, fun z => by cases z⟩, ⟨⟨rfl, fun z => by cases z⟩, ⟨⟨rfl, fun z => by cases z⟩, ⟨⟨rfl, fun z => by cases z⟩, ⟨⟨rfl, fun _ => rfl⟩, ⟨⟨rfl, fun _ => rfl⟩, ⟨⟨rfl, fun _ => rfl⟩, ⟨⟨rfl, fun _ => rfl⟩, ⟨⟨rfl, fun _ => rfl⟩, ⟨⟨rfl, fun _ => rfl⟩, ⟨⟨rfl, fun _ => rfl⟩, ⟨⟨rfl, fun _ => rfl⟩, ⟨⟨rfl, fun _ => rfl⟩, ⟨⟨rfl, fun _ => rfl⟩, ⟨⟨rfl, fun _ => rfl⟩, ⟨⟨rfl, fun _ => rfl⟩, ⟨⟨rfl, fun _ => rfl⟩, ⟨⟨rfl, fun _ => rfl⟩, ⟨⟨rfl, fun _ => rfl⟩, ⟨⟨rfl, fun _ => rfl⟩, ⟨⟨rfl, fun _ => rfl⟩, trivial⟩⟩⟩⟩⟩⟩⟩⟩⟩⟩⟩⟩⟩⟩⟩⟩⟩⟩⟩⟩⟩⟩⟩
theorem stB_bd (k : Nat) (i : Int) (hk : k ≤ 5) (hi : 0 ≤ i ∧ i < 7) : 0 ≤ stB k i ∧ stB k i ≤ 127 := by
  have key : ∀ k : Nat, k < 6 → ∀ i : Nat, i < 7 → 0 ≤ stB k (i : Int) ∧ stB k (i : Int) ≤ 127 := by decide +kernel
  have h := key k (by omega) i.toNat (by omega)
  rw [show ((i.toNat : Nat) : Int) = i by omega] at h
  exact h
section D1
variable (l : Launch) (b : Int → Int) (n : Int) (rt : TT) (pcs fau unf cau : Int)
theorem c_D_byteHere (pla : Int) (hn : 0 ≤ n ∧ n ≤ 120) (hp : 0 ≤ pla ∧ pla ≤ n) : Con l M_D_byteHere R_D_byteHere 0 0 false [.ref 0] (eRd b n rt pla pcs fau unf cau) (zAi (bt b n pla) (fun m => m = eRd b n rt pla pcs fau unf cau)) := by
  refine Con.of_Z (by decide) D_D_byteHere (Nat.le_of_ble_eq_true rfl) ?_
  refine Z_aload_n 0 rfl rfl rfl ?_
  refine Z_get 1 rfl f_D_26 rfl rfl ?_
  refine Z_aload_n 2 rfl rfl rfl ?_
  refine Z_get 3 rfl f_D_15 rfl rfl ?_
  refine Z_icmp_ge 4 rfl (tgt := 25) rfl (by omega) (by omega) (fun c8 => ?_) (fun c8 => ?_)
  · refine Z_iconst 11 rfl ?_
    refine Z_iret 12 rfl rfl ⟨Nat.le_refl _, Nat.le_refl _⟩ ?_
    exact ⟨by unfold bt; first | rw [if_pos (by omega)] | rw [if_neg (by omega)], rfl⟩
  · refine Z_aload_n 5 rfl rfl rfl ?_
    refine Z_get 6 rfl f_D_9 rfl rfl ?_
    refine Z_aload_n 7 rfl rfl rfl ?_
    refine Z_get 8 rfl f_D_26 rfl rfl ?_
    refine Z_callSNip (M' := M_C_pick) 9 [1] rfl l_D_77 C_C_pick (pick_in l 120 (by omega) b pla (by omega)) ⟨by decide, (zEL.c (Or.inr ⟨_, _, rfl, rfl, by decide⟩) zEL.n)⟩ rfl rfl rfl (Nat.le_of_ble_eq_true rfl) ⟨rfl, rfl, Nat.le_of_ble_eq_true rfl, Nat.le_of_ble_eq_true rfl⟩ ⟨Nat.zero_le _, Nat.zero_le _⟩ ?_
    refine Z_goto 10 rfl (tgt := 26) rfl ?_
    refine Z_iret 12 rfl rfl ⟨Nat.le_refl _, Nat.le_refl _⟩ ?_
    exact ⟨by unfold bt; first | rw [if_pos (by omega)] | rw [if_neg (by omega)], rfl⟩
theorem c_D_fail (pla wh wy : Int) (hn : 0 ≤ n ∧ n ≤ 120) (hw : inI wh) : Con l M_D_fail R_D_fail 0 0 false [.ref 0, .int (iI wh), .int (iI wy)] (eRd b n rt pla pcs fau unf cau) (zAb False (fun m => m = eRd b n rt pla pcs wh unf (if wh = n then 5 else wy))) := by
  refine Con.of_Z (by decide) D_D_fail (Nat.le_of_ble_eq_true rfl) ?_
  refine Z_aload_n 0 rfl rfl rfl ?_
  refine Z_iload_n 1 rfl rfl rfl ?_
  refine Z_put 2 rfl f_D_32 rfl (Nat.le_of_ble_eq_true rfl) (fun _ => ⟨rfl, rfl⟩) (fs' := []) (mem' := eRd b n rt pla pcs wh unf cau) rfl ?_
  refine Z_aload_n 3 rfl rfl rfl ?_
  refine Z_iload_n 4 rfl rfl rfl ?_
  refine Z_aload_n 5 rfl rfl rfl ?_
  refine Z_get 6 rfl f_D_15 rfl rfl ?_
  refine Z_icmp_ne 7 rfl (tgt := 18) rfl (by omega) (by omega) (fun c11 => ?_) (fun c11 => ?_)
  · refine Z_iload_n 10 rfl rfl rfl ?_
    refine Z_ci (show _ = (if wh = n then 5 else wy) by first | rw [if_pos (by omega)] | rw [if_neg (by omega)]) ?_
    refine Z_put 11 rfl f_D_38 rfl (Nat.le_of_ble_eq_true rfl) (fun _ => ⟨rfl, rfl⟩) (fs' := []) (mem' := eRd b n rt pla pcs wh unf (if wh = n then 5 else wy)) rfl ?_
    refine Z_iconst 12 rfl ?_
    refine Z_zret 13 rfl rfl rfl ⟨Nat.le_refl _, Nat.le_refl _⟩ ?_
    exact ⟨bF id, rfl⟩
  · refine Z_iconst 8 rfl ?_
    refine Z_goto 9 rfl (tgt := 19) rfl ?_
    refine Z_ci (show _ = (if wh = n then 5 else wy) by first | rw [if_pos (by omega)] | rw [if_neg (by omega)]) ?_
    refine Z_put 11 rfl f_D_38 rfl (Nat.le_of_ble_eq_true rfl) (fun _ => ⟨rfl, rfl⟩) (fs' := []) (mem' := eRd b n rt pla pcs wh unf (if wh = n then 5 else wy)) rfl ?_
    refine Z_iconst 12 rfl ?_
    refine Z_zret 13 rfl rfl rfl ⟨Nat.le_refl _, Nat.le_refl _⟩ ?_
    exact ⟨bF id, rfl⟩
theorem lp_D_isWord0 (pla beg len : Int) (hn : 0 ≤ n ∧ n ≤ 120) (hb : 0 ≤ beg ∧ beg + len ≤ n) (hl : len = 5) (hbt : ∀ i, 0 ≤ b i ∧ b i ≤ 127) : ∀ (d : Nat) (i : Int), 0 ≤ i → i ≤ len → len - i < d → (∀ x, 0 ≤ x → x < i → b (beg + x) = stB 0 x) → Z (l, M_D_isWord, R_D_isWord, (0, 0), false, zAb (IsW b beg (beg + len) 0) (fun m => m = eRd b n rt pla pcs fau unf cau)) 0 0 (eRd b n rt pla pcs fau unf cau) 13 [(0, .ref 0), (1, .int (iI beg)), (2, .int (iI len)), (3, .ref 7), (4, .int (iI i))] [] := by
  have hw : wln 0 = 5 := rfl
  intro d
  induction d with
  | zero => intro i h2 h3 h4; omega
  | succ d ih =>
    intro i h2 h3 h4 h5
    have hb2 := hbt (beg + i)
    refine Z_iload 8 rfl rfl ?_
    refine Z_iload_n 9 rfl rfl rfl ?_
    refine Z_icmp_ge 10 rfl (tgt := 56) rfl (by omega) (by omega) (fun c16 => ?_) (fun c16 => ?_)
    · refine Z_iconst 29 rfl ?_
      refine Z_zret 30 rfl rfl rfl ⟨Nat.le_refl _, Nat.le_refl _⟩ ?_
      exact ⟨bT ⟨by omega, fun x x1 x2 => h5 x x1 (by omega)⟩, rfl⟩
    · refine Z_iload 11 rfl rfl ?_
      refine Z_aload_n 12 rfl rfl rfl ?_
      refine Z_callVip (M' := M_J0_length) 13 [7, 13, 6, 19, 20, 21, 22] rfl l_D_89 C_J0_length (c_J0_length l 0 5 (by omega)) ⟨by decide, (zEL.c (Or.inl rfl) (zEL.c (Or.inl rfl) (zEL.c (Or.inl rfl) (zEL.c (Or.inl rfl) (zEL.c (Or.inl rfl) (zEL.c (Or.inl rfl) (zEL.c (Or.inl rfl) zEL.n)))))))⟩ (Or.inr ⟨_, _, rfl, rfl⟩) rfl rfl rfl (Nat.le_of_ble_eq_true rfl) ⟨rfl, rfl, Nat.le_of_ble_eq_true rfl, Nat.le_of_ble_eq_true rfl⟩ ⟨Nat.zero_le _, Nat.zero_le _⟩ ?_
      refine Z_icmp_ge 14 rfl (tgt := 56) rfl (by omega) (by omega) (fun c25 => ?_) (fun c25 => ?_)
      · exfalso; omega
      have hs := stB_bd 0 i (by omega) (by omega)
      refine Z_aload_n 15 rfl rfl rfl ?_
      refine Z_get 16 rfl f_D_9 rfl rfl ?_
      refine Z_iload_n 17 rfl rfl rfl ?_
      refine Z_iload 18 rfl rfl ?_
      refine Z_iadd 19 rfl ?_
      refine Z_callSNip (M' := M_C_pick) 20 [1] rfl l_D_77 C_C_pick (pick_in l 120 (by omega) b (beg + i) (by omega)) ⟨by decide, (zEL.c (Or.inr ⟨_, _, rfl, rfl, by decide⟩) zEL.n)⟩ rfl rfl rfl (Nat.le_of_ble_eq_true rfl) ⟨rfl, rfl, Nat.le_of_ble_eq_true rfl, Nat.le_of_ble_eq_true rfl⟩ ⟨Nat.zero_le _, Nat.zero_le _⟩ ?_
      refine Z_aload_n 21 rfl rfl rfl ?_
      refine Z_iload 22 rfl rfl ?_
      refine Z_callVip (M' := M_J0_charAt) 23 [7, 13, 6, 19, 20, 21, 22] rfl l_D_94 C_J0_charAt (c_J0_charAt l 0 5 (by omega) i (by omega) hs) ⟨by decide, (zEL.c (Or.inl rfl) (zEL.c (Or.inl rfl) (zEL.c (Or.inl rfl) (zEL.c (Or.inl rfl) (zEL.c (Or.inl rfl) (zEL.c (Or.inl rfl) (zEL.c (Or.inl rfl) zEL.n)))))))⟩ (Or.inr ⟨_, _, rfl, rfl⟩) rfl rfl rfl (Nat.le_of_ble_eq_true rfl) ⟨rfl, rfl, Nat.le_of_ble_eq_true rfl, Nat.le_of_ble_eq_true rfl⟩ ⟨Nat.zero_le _, Nat.zero_le _⟩ ?_
      refine Z_icmp_eq 24 rfl (tgt := 50) rfl (by omega) (by omega) (fun c45 => ?_) (fun c45 => ?_)
      · refine Z_iinc 27 rfl rfl (Nat.le_of_ble_eq_true rfl) (lv' := [(4, .int _), (0, .ref _), (1, .int _), (2, .int _), (3, .ref _)]) rfl ?_
        refine Z_goto 28 rfl (tgt := 13) rfl ?_
        refine Z_pick [0, 1, 2, 3, 4] (lv' := [(0, .ref _), (1, .int _), (2, .int _), (3, .ref _), (4, .int _)]) rfl ?_
        exact ih (i + 1) (by omega) (by omega) (by omega) (fun x x1 x2 => by
          by_cases ex : x = i
          · rw [ex]; omega
          · exact h5 x x1 (by omega))
      · refine Z_iconst 25 rfl ?_
        refine Z_zret 26 rfl rfl rfl ⟨Nat.le_refl _, Nat.le_refl _⟩ ?_
        exact ⟨bF (fun z => by have := z.2 i h2 (by omega); have e0 : stB (Int.toNat 0) i = stB 0 i := rfl; omega), rfl⟩
theorem c_D_isWord0 (pla beg len : Int) (hn : 0 ≤ n ∧ n ≤ 120) (hb : 0 ≤ beg ∧ beg + len ≤ n) (hl0 : 0 ≤ len) (hbt : ∀ i, 0 ≤ b i ∧ b i ≤ 127) : Con l M_D_isWord R_D_isWord 0 0 false [.ref 0, .int (iI beg), .int (iI len), .ref 7] (eRd b n rt pla pcs fau unf cau) (zAb (IsW b beg (beg + len) 0) (fun m => m = eRd b n rt pla pcs fau unf cau)) := by
  have hw : wln 0 = 5 := rfl
  refine Con.of_Z (by decide) D_D_isWord (Nat.le_of_ble_eq_true rfl) ?_
  refine Z_iload_n 0 rfl rfl rfl ?_
  refine Z_aload_n 1 rfl rfl rfl ?_
  refine Z_callVip (M' := M_J0_length) 2 [7, 13, 6, 19, 20, 21, 22] rfl l_D_89 C_J0_length (c_J0_length l 0 5 (by omega)) ⟨by decide, (zEL.c (Or.inl rfl) (zEL.c (Or.inl rfl) (zEL.c (Or.inl rfl) (zEL.c (Or.inl rfl) (zEL.c (Or.inl rfl) (zEL.c (Or.inl rfl) (zEL.c (Or.inl rfl) zEL.n)))))))⟩ (Or.inr ⟨_, _, rfl, rfl⟩) rfl rfl rfl (Nat.le_of_ble_eq_true rfl) ⟨rfl, rfl, Nat.le_of_ble_eq_true rfl, Nat.le_of_ble_eq_true rfl⟩ ⟨Nat.zero_le _, Nat.zero_le _⟩ ?_
  refine Z_icmp_eq 3 rfl (tgt := 10) rfl (by omega) (by omega) (fun c5 => ?_) (fun c5 => ?_)
  · refine Z_iconst 6 rfl ?_
    refine Z_istore 7 rfl (Nat.le_of_ble_eq_true rfl) (lv' := [(4, .int _), (0, .ref _), (1, .int _), (2, .int _), (3, .ref _)]) rfl ?_
    refine Z_pick [0, 1, 2, 3, 4] (lv' := [(0, .ref _), (1, .int _), (2, .int _), (3, .ref _), (4, .int _)]) rfl ?_
    exact lp_D_isWord0 l b n rt pcs fau unf cau pla beg len hn hb (by omega) hbt 6 0 (by omega) (by omega) (by omega) (fun x x1 x2 => by omega)
  · refine Z_iconst 4 rfl ?_
    refine Z_zret 5 rfl rfl rfl ⟨Nat.le_refl _, Nat.le_refl _⟩ ?_
    exact ⟨bF (fun z => by have := z.1; omega), rfl⟩
theorem c_D_wordOf0 (pla : Int) : Con l M_D_wordOf R_D_wordOf 0 0 false [.int (iI 0)] (eRd b n rt pla pcs fau unf cau) (zAr 7 (fun m => m = eRd b n rt pla pcs fau unf cau)) := by
  refine Con.of_Z (by decide) D_D_wordOf (Nat.le_of_ble_eq_true rfl) ?_
  refine Z_iload_n 0 rfl rfl rfl ?_
  rcases Classical.em ((0 : Int) < 0 ∨ 4 < (0 : Int)) with cs | cs
  · refine Z_tabOut 1 rfl (by omega) cs (tgt := 51) rfl ?_
    refine Z_ldcS 12 (q := 12) rfl rfl rfl rfl ?_
    refine Z_aret 13 rfl rfl ⟨Nat.le_refl _, Nat.le_refl _⟩ ?_
    first | (exfalso; omega) | exact ⟨rfl, rfl⟩
  rcases (show (0 : Int) = 0 ∨ (0 : Int) = 1 ∨ (0 : Int) = 2 ∨ (0 : Int) = 3 ∨ (0 : Int) = 4 by omega) with cs | cs | cs | cs | cs
  · refine Z_ci cs ?_
    refine Z_tabIn 1 rfl (by decide) (by decide) (by decide) (off := 35) rfl (tgt := 36) rfl ?_
    refine Z_ldcS 2 (q := 7) rfl rfl rfl rfl ?_
    refine Z_aret 3 rfl rfl ⟨Nat.le_refl _, Nat.le_refl _⟩ ?_
    first | (exfalso; omega) | exact ⟨rfl, rfl⟩
  · refine Z_ci cs ?_
    refine Z_tabIn 1 rfl (by decide) (by decide) (by decide) (off := 38) rfl (tgt := 39) rfl ?_
    refine Z_ldcS 4 (q := 8) rfl rfl rfl rfl ?_
    refine Z_aret 5 rfl rfl ⟨Nat.le_refl _, Nat.le_refl _⟩ ?_
    first | (exfalso; omega) | exact ⟨rfl, rfl⟩
  · refine Z_ci cs ?_
    refine Z_tabIn 1 rfl (by decide) (by decide) (by decide) (off := 41) rfl (tgt := 42) rfl ?_
    refine Z_ldcS 6 (q := 9) rfl rfl rfl rfl ?_
    refine Z_aret 7 rfl rfl ⟨Nat.le_refl _, Nat.le_refl _⟩ ?_
    first | (exfalso; omega) | exact ⟨rfl, rfl⟩
  · refine Z_ci cs ?_
    refine Z_tabIn 1 rfl (by decide) (by decide) (by decide) (off := 44) rfl (tgt := 45) rfl ?_
    refine Z_ldcS 8 (q := 10) rfl rfl rfl rfl ?_
    refine Z_aret 9 rfl rfl ⟨Nat.le_refl _, Nat.le_refl _⟩ ?_
    first | (exfalso; omega) | exact ⟨rfl, rfl⟩
  · refine Z_ci cs ?_
    refine Z_tabIn 1 rfl (by decide) (by decide) (by decide) (off := 47) rfl (tgt := 48) rfl ?_
    refine Z_ldcS 10 (q := 11) rfl rfl rfl rfl ?_
    refine Z_aret 11 rfl rfl ⟨Nat.le_refl _, Nat.le_refl _⟩ ?_
    first | (exfalso; omega) | exact ⟨rfl, rfl⟩
theorem lp_D_isWord1 (pla beg len : Int) (hn : 0 ≤ n ∧ n ≤ 120) (hb : 0 ≤ beg ∧ beg + len ≤ n) (hl : len = 4) (hbt : ∀ i, 0 ≤ b i ∧ b i ≤ 127) : ∀ (d : Nat) (i : Int), 0 ≤ i → i ≤ len → len - i < d → (∀ x, 0 ≤ x → x < i → b (beg + x) = stB 1 x) → Z (l, M_D_isWord, R_D_isWord, (0, 0), false, zAb (IsW b beg (beg + len) 1) (fun m => m = eRd b n rt pla pcs fau unf cau)) 0 0 (eRd b n rt pla pcs fau unf cau) 13 [(0, .ref 0), (1, .int (iI beg)), (2, .int (iI len)), (3, .ref 8), (4, .int (iI i))] [] := by
  have hw : wln 1 = 4 := rfl
  intro d
  induction d with
  | zero => intro i h2 h3 h4; omega
  | succ d ih =>
    intro i h2 h3 h4 h5
    have hb2 := hbt (beg + i)
    refine Z_iload 8 rfl rfl ?_
    refine Z_iload_n 9 rfl rfl rfl ?_
    refine Z_icmp_ge 10 rfl (tgt := 56) rfl (by omega) (by omega) (fun c16 => ?_) (fun c16 => ?_)
    · refine Z_iconst 29 rfl ?_
      refine Z_zret 30 rfl rfl rfl ⟨Nat.le_refl _, Nat.le_refl _⟩ ?_
      exact ⟨bT ⟨by omega, fun x x1 x2 => h5 x x1 (by omega)⟩, rfl⟩
    · refine Z_iload 11 rfl rfl ?_
      refine Z_aload_n 12 rfl rfl rfl ?_
      refine Z_callVip (M' := M_J0_length) 13 [8, 14, 6, 19, 20, 21, 22] rfl l_D_89 C_J0_length (c_J0_length l 1 4 (by omega)) ⟨by decide, (zEL.c (Or.inl rfl) (zEL.c (Or.inl rfl) (zEL.c (Or.inl rfl) (zEL.c (Or.inl rfl) (zEL.c (Or.inl rfl) (zEL.c (Or.inl rfl) (zEL.c (Or.inl rfl) zEL.n)))))))⟩ (Or.inr ⟨_, _, rfl, rfl⟩) rfl rfl rfl (Nat.le_of_ble_eq_true rfl) ⟨rfl, rfl, Nat.le_of_ble_eq_true rfl, Nat.le_of_ble_eq_true rfl⟩ ⟨Nat.zero_le _, Nat.zero_le _⟩ ?_
      refine Z_icmp_ge 14 rfl (tgt := 56) rfl (by omega) (by omega) (fun c25 => ?_) (fun c25 => ?_)
      · exfalso; omega
      have hs := stB_bd 1 i (by omega) (by omega)
      refine Z_aload_n 15 rfl rfl rfl ?_
      refine Z_get 16 rfl f_D_9 rfl rfl ?_
      refine Z_iload_n 17 rfl rfl rfl ?_
      refine Z_iload 18 rfl rfl ?_
      refine Z_iadd 19 rfl ?_
      refine Z_callSNip (M' := M_C_pick) 20 [1] rfl l_D_77 C_C_pick (pick_in l 120 (by omega) b (beg + i) (by omega)) ⟨by decide, (zEL.c (Or.inr ⟨_, _, rfl, rfl, by decide⟩) zEL.n)⟩ rfl rfl rfl (Nat.le_of_ble_eq_true rfl) ⟨rfl, rfl, Nat.le_of_ble_eq_true rfl, Nat.le_of_ble_eq_true rfl⟩ ⟨Nat.zero_le _, Nat.zero_le _⟩ ?_
      refine Z_aload_n 21 rfl rfl rfl ?_
      refine Z_iload 22 rfl rfl ?_
      refine Z_callVip (M' := M_J0_charAt) 23 [8, 14, 6, 19, 20, 21, 22] rfl l_D_94 C_J0_charAt (c_J0_charAt l 1 4 (by omega) i (by omega) hs) ⟨by decide, (zEL.c (Or.inl rfl) (zEL.c (Or.inl rfl) (zEL.c (Or.inl rfl) (zEL.c (Or.inl rfl) (zEL.c (Or.inl rfl) (zEL.c (Or.inl rfl) (zEL.c (Or.inl rfl) zEL.n)))))))⟩ (Or.inr ⟨_, _, rfl, rfl⟩) rfl rfl rfl (Nat.le_of_ble_eq_true rfl) ⟨rfl, rfl, Nat.le_of_ble_eq_true rfl, Nat.le_of_ble_eq_true rfl⟩ ⟨Nat.zero_le _, Nat.zero_le _⟩ ?_
      refine Z_icmp_eq 24 rfl (tgt := 50) rfl (by omega) (by omega) (fun c45 => ?_) (fun c45 => ?_)
      · refine Z_iinc 27 rfl rfl (Nat.le_of_ble_eq_true rfl) (lv' := [(4, .int _), (0, .ref _), (1, .int _), (2, .int _), (3, .ref _)]) rfl ?_
        refine Z_goto 28 rfl (tgt := 13) rfl ?_
        refine Z_pick [0, 1, 2, 3, 4] (lv' := [(0, .ref _), (1, .int _), (2, .int _), (3, .ref _), (4, .int _)]) rfl ?_
        exact ih (i + 1) (by omega) (by omega) (by omega) (fun x x1 x2 => by
          by_cases ex : x = i
          · rw [ex]; omega
          · exact h5 x x1 (by omega))
      · refine Z_iconst 25 rfl ?_
        refine Z_zret 26 rfl rfl rfl ⟨Nat.le_refl _, Nat.le_refl _⟩ ?_
        exact ⟨bF (fun z => by have := z.2 i h2 (by omega); have e0 : stB (Int.toNat 1) i = stB 1 i := rfl; omega), rfl⟩
theorem c_D_isWord1 (pla beg len : Int) (hn : 0 ≤ n ∧ n ≤ 120) (hb : 0 ≤ beg ∧ beg + len ≤ n) (hl0 : 0 ≤ len) (hbt : ∀ i, 0 ≤ b i ∧ b i ≤ 127) : Con l M_D_isWord R_D_isWord 0 0 false [.ref 0, .int (iI beg), .int (iI len), .ref 8] (eRd b n rt pla pcs fau unf cau) (zAb (IsW b beg (beg + len) 1) (fun m => m = eRd b n rt pla pcs fau unf cau)) := by
  have hw : wln 1 = 4 := rfl
  refine Con.of_Z (by decide) D_D_isWord (Nat.le_of_ble_eq_true rfl) ?_
  refine Z_iload_n 0 rfl rfl rfl ?_
  refine Z_aload_n 1 rfl rfl rfl ?_
  refine Z_callVip (M' := M_J0_length) 2 [8, 14, 6, 19, 20, 21, 22] rfl l_D_89 C_J0_length (c_J0_length l 1 4 (by omega)) ⟨by decide, (zEL.c (Or.inl rfl) (zEL.c (Or.inl rfl) (zEL.c (Or.inl rfl) (zEL.c (Or.inl rfl) (zEL.c (Or.inl rfl) (zEL.c (Or.inl rfl) (zEL.c (Or.inl rfl) zEL.n)))))))⟩ (Or.inr ⟨_, _, rfl, rfl⟩) rfl rfl rfl (Nat.le_of_ble_eq_true rfl) ⟨rfl, rfl, Nat.le_of_ble_eq_true rfl, Nat.le_of_ble_eq_true rfl⟩ ⟨Nat.zero_le _, Nat.zero_le _⟩ ?_
  refine Z_icmp_eq 3 rfl (tgt := 10) rfl (by omega) (by omega) (fun c5 => ?_) (fun c5 => ?_)
  · refine Z_iconst 6 rfl ?_
    refine Z_istore 7 rfl (Nat.le_of_ble_eq_true rfl) (lv' := [(4, .int _), (0, .ref _), (1, .int _), (2, .int _), (3, .ref _)]) rfl ?_
    refine Z_pick [0, 1, 2, 3, 4] (lv' := [(0, .ref _), (1, .int _), (2, .int _), (3, .ref _), (4, .int _)]) rfl ?_
    exact lp_D_isWord1 l b n rt pcs fau unf cau pla beg len hn hb (by omega) hbt 5 0 (by omega) (by omega) (by omega) (fun x x1 x2 => by omega)
  · refine Z_iconst 4 rfl ?_
    refine Z_zret 5 rfl rfl rfl ⟨Nat.le_refl _, Nat.le_refl _⟩ ?_
    exact ⟨bF (fun z => by have := z.1; omega), rfl⟩
theorem c_D_wordOf1 (pla : Int) : Con l M_D_wordOf R_D_wordOf 0 0 false [.int (iI 1)] (eRd b n rt pla pcs fau unf cau) (zAr 8 (fun m => m = eRd b n rt pla pcs fau unf cau)) := by
  refine Con.of_Z (by decide) D_D_wordOf (Nat.le_of_ble_eq_true rfl) ?_
  refine Z_iload_n 0 rfl rfl rfl ?_
  rcases Classical.em ((1 : Int) < 0 ∨ 4 < (1 : Int)) with cs | cs
  · refine Z_tabOut 1 rfl (by omega) cs (tgt := 51) rfl ?_
    refine Z_ldcS 12 (q := 12) rfl rfl rfl rfl ?_
    refine Z_aret 13 rfl rfl ⟨Nat.le_refl _, Nat.le_refl _⟩ ?_
    first | (exfalso; omega) | exact ⟨rfl, rfl⟩
  rcases (show (1 : Int) = 0 ∨ (1 : Int) = 1 ∨ (1 : Int) = 2 ∨ (1 : Int) = 3 ∨ (1 : Int) = 4 by omega) with cs | cs | cs | cs | cs
  · refine Z_ci cs ?_
    refine Z_tabIn 1 rfl (by decide) (by decide) (by decide) (off := 35) rfl (tgt := 36) rfl ?_
    refine Z_ldcS 2 (q := 7) rfl rfl rfl rfl ?_
    refine Z_aret 3 rfl rfl ⟨Nat.le_refl _, Nat.le_refl _⟩ ?_
    first | (exfalso; omega) | exact ⟨rfl, rfl⟩
  · refine Z_ci cs ?_
    refine Z_tabIn 1 rfl (by decide) (by decide) (by decide) (off := 38) rfl (tgt := 39) rfl ?_
    refine Z_ldcS 4 (q := 8) rfl rfl rfl rfl ?_
    refine Z_aret 5 rfl rfl ⟨Nat.le_refl _, Nat.le_refl _⟩ ?_
    first | (exfalso; omega) | exact ⟨rfl, rfl⟩
  · refine Z_ci cs ?_
    refine Z_tabIn 1 rfl (by decide) (by decide) (by decide) (off := 41) rfl (tgt := 42) rfl ?_
    refine Z_ldcS 6 (q := 9) rfl rfl rfl rfl ?_
    refine Z_aret 7 rfl rfl ⟨Nat.le_refl _, Nat.le_refl _⟩ ?_
    first | (exfalso; omega) | exact ⟨rfl, rfl⟩
  · refine Z_ci cs ?_
    refine Z_tabIn 1 rfl (by decide) (by decide) (by decide) (off := 44) rfl (tgt := 45) rfl ?_
    refine Z_ldcS 8 (q := 10) rfl rfl rfl rfl ?_
    refine Z_aret 9 rfl rfl ⟨Nat.le_refl _, Nat.le_refl _⟩ ?_
    first | (exfalso; omega) | exact ⟨rfl, rfl⟩
  · refine Z_ci cs ?_
    refine Z_tabIn 1 rfl (by decide) (by decide) (by decide) (off := 47) rfl (tgt := 48) rfl ?_
    refine Z_ldcS 10 (q := 11) rfl rfl rfl rfl ?_
    refine Z_aret 11 rfl rfl ⟨Nat.le_refl _, Nat.le_refl _⟩ ?_
    first | (exfalso; omega) | exact ⟨rfl, rfl⟩
theorem lp_D_isWord2 (pla beg len : Int) (hn : 0 ≤ n ∧ n ≤ 120) (hb : 0 ≤ beg ∧ beg + len ≤ n) (hl : len = 5) (hbt : ∀ i, 0 ≤ b i ∧ b i ≤ 127) : ∀ (d : Nat) (i : Int), 0 ≤ i → i ≤ len → len - i < d → (∀ x, 0 ≤ x → x < i → b (beg + x) = stB 2 x) → Z (l, M_D_isWord, R_D_isWord, (0, 0), false, zAb (IsW b beg (beg + len) 2) (fun m => m = eRd b n rt pla pcs fau unf cau)) 0 0 (eRd b n rt pla pcs fau unf cau) 13 [(0, .ref 0), (1, .int (iI beg)), (2, .int (iI len)), (3, .ref 9), (4, .int (iI i))] [] := by
  have hw : wln 2 = 5 := rfl
  intro d
  induction d with
  | zero => intro i h2 h3 h4; omega
  | succ d ih =>
    intro i h2 h3 h4 h5
    have hb2 := hbt (beg + i)
    refine Z_iload 8 rfl rfl ?_
    refine Z_iload_n 9 rfl rfl rfl ?_
    refine Z_icmp_ge 10 rfl (tgt := 56) rfl (by omega) (by omega) (fun c16 => ?_) (fun c16 => ?_)
    · refine Z_iconst 29 rfl ?_
      refine Z_zret 30 rfl rfl rfl ⟨Nat.le_refl _, Nat.le_refl _⟩ ?_
      exact ⟨bT ⟨by omega, fun x x1 x2 => h5 x x1 (by omega)⟩, rfl⟩
    · refine Z_iload 11 rfl rfl ?_
      refine Z_aload_n 12 rfl rfl rfl ?_
      refine Z_callVip (M' := M_J0_length) 13 [9, 15, 6, 19, 20, 21, 22] rfl l_D_89 C_J0_length (c_J0_length l 2 5 (by omega)) ⟨by decide, (zEL.c (Or.inl rfl) (zEL.c (Or.inl rfl) (zEL.c (Or.inl rfl) (zEL.c (Or.inl rfl) (zEL.c (Or.inl rfl) (zEL.c (Or.inl rfl) (zEL.c (Or.inl rfl) zEL.n)))))))⟩ (Or.inr ⟨_, _, rfl, rfl⟩) rfl rfl rfl (Nat.le_of_ble_eq_true rfl) ⟨rfl, rfl, Nat.le_of_ble_eq_true rfl, Nat.le_of_ble_eq_true rfl⟩ ⟨Nat.zero_le _, Nat.zero_le _⟩ ?_
      refine Z_icmp_ge 14 rfl (tgt := 56) rfl (by omega) (by omega) (fun c25 => ?_) (fun c25 => ?_)
      · exfalso; omega
      have hs := stB_bd 2 i (by omega) (by omega)
      refine Z_aload_n 15 rfl rfl rfl ?_
      refine Z_get 16 rfl f_D_9 rfl rfl ?_
      refine Z_iload_n 17 rfl rfl rfl ?_
      refine Z_iload 18 rfl rfl ?_
      refine Z_iadd 19 rfl ?_
      refine Z_callSNip (M' := M_C_pick) 20 [1] rfl l_D_77 C_C_pick (pick_in l 120 (by omega) b (beg + i) (by omega)) ⟨by decide, (zEL.c (Or.inr ⟨_, _, rfl, rfl, by decide⟩) zEL.n)⟩ rfl rfl rfl (Nat.le_of_ble_eq_true rfl) ⟨rfl, rfl, Nat.le_of_ble_eq_true rfl, Nat.le_of_ble_eq_true rfl⟩ ⟨Nat.zero_le _, Nat.zero_le _⟩ ?_
      refine Z_aload_n 21 rfl rfl rfl ?_
      refine Z_iload 22 rfl rfl ?_
      refine Z_callVip (M' := M_J0_charAt) 23 [9, 15, 6, 19, 20, 21, 22] rfl l_D_94 C_J0_charAt (c_J0_charAt l 2 5 (by omega) i (by omega) hs) ⟨by decide, (zEL.c (Or.inl rfl) (zEL.c (Or.inl rfl) (zEL.c (Or.inl rfl) (zEL.c (Or.inl rfl) (zEL.c (Or.inl rfl) (zEL.c (Or.inl rfl) (zEL.c (Or.inl rfl) zEL.n)))))))⟩ (Or.inr ⟨_, _, rfl, rfl⟩) rfl rfl rfl (Nat.le_of_ble_eq_true rfl) ⟨rfl, rfl, Nat.le_of_ble_eq_true rfl, Nat.le_of_ble_eq_true rfl⟩ ⟨Nat.zero_le _, Nat.zero_le _⟩ ?_
      refine Z_icmp_eq 24 rfl (tgt := 50) rfl (by omega) (by omega) (fun c45 => ?_) (fun c45 => ?_)
      · refine Z_iinc 27 rfl rfl (Nat.le_of_ble_eq_true rfl) (lv' := [(4, .int _), (0, .ref _), (1, .int _), (2, .int _), (3, .ref _)]) rfl ?_
        refine Z_goto 28 rfl (tgt := 13) rfl ?_
        refine Z_pick [0, 1, 2, 3, 4] (lv' := [(0, .ref _), (1, .int _), (2, .int _), (3, .ref _), (4, .int _)]) rfl ?_
        exact ih (i + 1) (by omega) (by omega) (by omega) (fun x x1 x2 => by
          by_cases ex : x = i
          · rw [ex]; omega
          · exact h5 x x1 (by omega))
      · refine Z_iconst 25 rfl ?_
        refine Z_zret 26 rfl rfl rfl ⟨Nat.le_refl _, Nat.le_refl _⟩ ?_
        exact ⟨bF (fun z => by have := z.2 i h2 (by omega); have e0 : stB (Int.toNat 2) i = stB 2 i := rfl; omega), rfl⟩
theorem c_D_isWord2 (pla beg len : Int) (hn : 0 ≤ n ∧ n ≤ 120) (hb : 0 ≤ beg ∧ beg + len ≤ n) (hl0 : 0 ≤ len) (hbt : ∀ i, 0 ≤ b i ∧ b i ≤ 127) : Con l M_D_isWord R_D_isWord 0 0 false [.ref 0, .int (iI beg), .int (iI len), .ref 9] (eRd b n rt pla pcs fau unf cau) (zAb (IsW b beg (beg + len) 2) (fun m => m = eRd b n rt pla pcs fau unf cau)) := by
  have hw : wln 2 = 5 := rfl
  refine Con.of_Z (by decide) D_D_isWord (Nat.le_of_ble_eq_true rfl) ?_
  refine Z_iload_n 0 rfl rfl rfl ?_
  refine Z_aload_n 1 rfl rfl rfl ?_
  refine Z_callVip (M' := M_J0_length) 2 [9, 15, 6, 19, 20, 21, 22] rfl l_D_89 C_J0_length (c_J0_length l 2 5 (by omega)) ⟨by decide, (zEL.c (Or.inl rfl) (zEL.c (Or.inl rfl) (zEL.c (Or.inl rfl) (zEL.c (Or.inl rfl) (zEL.c (Or.inl rfl) (zEL.c (Or.inl rfl) (zEL.c (Or.inl rfl) zEL.n)))))))⟩ (Or.inr ⟨_, _, rfl, rfl⟩) rfl rfl rfl (Nat.le_of_ble_eq_true rfl) ⟨rfl, rfl, Nat.le_of_ble_eq_true rfl, Nat.le_of_ble_eq_true rfl⟩ ⟨Nat.zero_le _, Nat.zero_le _⟩ ?_
  refine Z_icmp_eq 3 rfl (tgt := 10) rfl (by omega) (by omega) (fun c5 => ?_) (fun c5 => ?_)
  · refine Z_iconst 6 rfl ?_
    refine Z_istore 7 rfl (Nat.le_of_ble_eq_true rfl) (lv' := [(4, .int _), (0, .ref _), (1, .int _), (2, .int _), (3, .ref _)]) rfl ?_
    refine Z_pick [0, 1, 2, 3, 4] (lv' := [(0, .ref _), (1, .int _), (2, .int _), (3, .ref _), (4, .int _)]) rfl ?_
    exact lp_D_isWord2 l b n rt pcs fau unf cau pla beg len hn hb (by omega) hbt 6 0 (by omega) (by omega) (by omega) (fun x x1 x2 => by omega)
  · refine Z_iconst 4 rfl ?_
    refine Z_zret 5 rfl rfl rfl ⟨Nat.le_refl _, Nat.le_refl _⟩ ?_
    exact ⟨bF (fun z => by have := z.1; omega), rfl⟩
theorem c_D_wordOf2 (pla : Int) : Con l M_D_wordOf R_D_wordOf 0 0 false [.int (iI 2)] (eRd b n rt pla pcs fau unf cau) (zAr 9 (fun m => m = eRd b n rt pla pcs fau unf cau)) := by
  refine Con.of_Z (by decide) D_D_wordOf (Nat.le_of_ble_eq_true rfl) ?_
  refine Z_iload_n 0 rfl rfl rfl ?_
  rcases Classical.em ((2 : Int) < 0 ∨ 4 < (2 : Int)) with cs | cs
  · refine Z_tabOut 1 rfl (by omega) cs (tgt := 51) rfl ?_
    refine Z_ldcS 12 (q := 12) rfl rfl rfl rfl ?_
    refine Z_aret 13 rfl rfl ⟨Nat.le_refl _, Nat.le_refl _⟩ ?_
    first | (exfalso; omega) | exact ⟨rfl, rfl⟩
  rcases (show (2 : Int) = 0 ∨ (2 : Int) = 1 ∨ (2 : Int) = 2 ∨ (2 : Int) = 3 ∨ (2 : Int) = 4 by omega) with cs | cs | cs | cs | cs
  · refine Z_ci cs ?_
    refine Z_tabIn 1 rfl (by decide) (by decide) (by decide) (off := 35) rfl (tgt := 36) rfl ?_
    refine Z_ldcS 2 (q := 7) rfl rfl rfl rfl ?_
    refine Z_aret 3 rfl rfl ⟨Nat.le_refl _, Nat.le_refl _⟩ ?_
    first | (exfalso; omega) | exact ⟨rfl, rfl⟩
  · refine Z_ci cs ?_
    refine Z_tabIn 1 rfl (by decide) (by decide) (by decide) (off := 38) rfl (tgt := 39) rfl ?_
    refine Z_ldcS 4 (q := 8) rfl rfl rfl rfl ?_
    refine Z_aret 5 rfl rfl ⟨Nat.le_refl _, Nat.le_refl _⟩ ?_
    first | (exfalso; omega) | exact ⟨rfl, rfl⟩
  · refine Z_ci cs ?_
    refine Z_tabIn 1 rfl (by decide) (by decide) (by decide) (off := 41) rfl (tgt := 42) rfl ?_
    refine Z_ldcS 6 (q := 9) rfl rfl rfl rfl ?_
    refine Z_aret 7 rfl rfl ⟨Nat.le_refl _, Nat.le_refl _⟩ ?_
    first | (exfalso; omega) | exact ⟨rfl, rfl⟩
  · refine Z_ci cs ?_
    refine Z_tabIn 1 rfl (by decide) (by decide) (by decide) (off := 44) rfl (tgt := 45) rfl ?_
    refine Z_ldcS 8 (q := 10) rfl rfl rfl rfl ?_
    refine Z_aret 9 rfl rfl ⟨Nat.le_refl _, Nat.le_refl _⟩ ?_
    first | (exfalso; omega) | exact ⟨rfl, rfl⟩
  · refine Z_ci cs ?_
    refine Z_tabIn 1 rfl (by decide) (by decide) (by decide) (off := 47) rfl (tgt := 48) rfl ?_
    refine Z_ldcS 10 (q := 11) rfl rfl rfl rfl ?_
    refine Z_aret 11 rfl rfl ⟨Nat.le_refl _, Nat.le_refl _⟩ ?_
    first | (exfalso; omega) | exact ⟨rfl, rfl⟩
theorem lp_D_isWord3 (pla beg len : Int) (hn : 0 ≤ n ∧ n ≤ 120) (hb : 0 ≤ beg ∧ beg + len ≤ n) (hl : len = 4) (hbt : ∀ i, 0 ≤ b i ∧ b i ≤ 127) : ∀ (d : Nat) (i : Int), 0 ≤ i → i ≤ len → len - i < d → (∀ x, 0 ≤ x → x < i → b (beg + x) = stB 3 x) → Z (l, M_D_isWord, R_D_isWord, (0, 0), false, zAb (IsW b beg (beg + len) 3) (fun m => m = eRd b n rt pla pcs fau unf cau)) 0 0 (eRd b n rt pla pcs fau unf cau) 13 [(0, .ref 0), (1, .int (iI beg)), (2, .int (iI len)), (3, .ref 10), (4, .int (iI i))] [] := by
  have hw : wln 3 = 4 := rfl
  intro d
  induction d with
  | zero => intro i h2 h3 h4; omega
  | succ d ih =>
    intro i h2 h3 h4 h5
    have hb2 := hbt (beg + i)
    refine Z_iload 8 rfl rfl ?_
    refine Z_iload_n 9 rfl rfl rfl ?_
    refine Z_icmp_ge 10 rfl (tgt := 56) rfl (by omega) (by omega) (fun c16 => ?_) (fun c16 => ?_)
    · refine Z_iconst 29 rfl ?_
      refine Z_zret 30 rfl rfl rfl ⟨Nat.le_refl _, Nat.le_refl _⟩ ?_
      exact ⟨bT ⟨by omega, fun x x1 x2 => h5 x x1 (by omega)⟩, rfl⟩
    · refine Z_iload 11 rfl rfl ?_
      refine Z_aload_n 12 rfl rfl rfl ?_
      refine Z_callVip (M' := M_J0_length) 13 [10, 16, 6, 19, 20, 21, 22] rfl l_D_89 C_J0_length (c_J0_length l 3 4 (by omega)) ⟨by decide, (zEL.c (Or.inl rfl) (zEL.c (Or.inl rfl) (zEL.c (Or.inl rfl) (zEL.c (Or.inl rfl) (zEL.c (Or.inl rfl) (zEL.c (Or.inl rfl) (zEL.c (Or.inl rfl) zEL.n)))))))⟩ (Or.inr ⟨_, _, rfl, rfl⟩) rfl rfl rfl (Nat.le_of_ble_eq_true rfl) ⟨rfl, rfl, Nat.le_of_ble_eq_true rfl, Nat.le_of_ble_eq_true rfl⟩ ⟨Nat.zero_le _, Nat.zero_le _⟩ ?_
      refine Z_icmp_ge 14 rfl (tgt := 56) rfl (by omega) (by omega) (fun c25 => ?_) (fun c25 => ?_)
      · exfalso; omega
      have hs := stB_bd 3 i (by omega) (by omega)
      refine Z_aload_n 15 rfl rfl rfl ?_
      refine Z_get 16 rfl f_D_9 rfl rfl ?_
      refine Z_iload_n 17 rfl rfl rfl ?_
      refine Z_iload 18 rfl rfl ?_
      refine Z_iadd 19 rfl ?_
      refine Z_callSNip (M' := M_C_pick) 20 [1] rfl l_D_77 C_C_pick (pick_in l 120 (by omega) b (beg + i) (by omega)) ⟨by decide, (zEL.c (Or.inr ⟨_, _, rfl, rfl, by decide⟩) zEL.n)⟩ rfl rfl rfl (Nat.le_of_ble_eq_true rfl) ⟨rfl, rfl, Nat.le_of_ble_eq_true rfl, Nat.le_of_ble_eq_true rfl⟩ ⟨Nat.zero_le _, Nat.zero_le _⟩ ?_
      refine Z_aload_n 21 rfl rfl rfl ?_
      refine Z_iload 22 rfl rfl ?_
      refine Z_callVip (M' := M_J0_charAt) 23 [10, 16, 6, 19, 20, 21, 22] rfl l_D_94 C_J0_charAt (c_J0_charAt l 3 4 (by omega) i (by omega) hs) ⟨by decide, (zEL.c (Or.inl rfl) (zEL.c (Or.inl rfl) (zEL.c (Or.inl rfl) (zEL.c (Or.inl rfl) (zEL.c (Or.inl rfl) (zEL.c (Or.inl rfl) (zEL.c (Or.inl rfl) zEL.n)))))))⟩ (Or.inr ⟨_, _, rfl, rfl⟩) rfl rfl rfl (Nat.le_of_ble_eq_true rfl) ⟨rfl, rfl, Nat.le_of_ble_eq_true rfl, Nat.le_of_ble_eq_true rfl⟩ ⟨Nat.zero_le _, Nat.zero_le _⟩ ?_
      refine Z_icmp_eq 24 rfl (tgt := 50) rfl (by omega) (by omega) (fun c45 => ?_) (fun c45 => ?_)
      · refine Z_iinc 27 rfl rfl (Nat.le_of_ble_eq_true rfl) (lv' := [(4, .int _), (0, .ref _), (1, .int _), (2, .int _), (3, .ref _)]) rfl ?_
        refine Z_goto 28 rfl (tgt := 13) rfl ?_
        refine Z_pick [0, 1, 2, 3, 4] (lv' := [(0, .ref _), (1, .int _), (2, .int _), (3, .ref _), (4, .int _)]) rfl ?_
        exact ih (i + 1) (by omega) (by omega) (by omega) (fun x x1 x2 => by
          by_cases ex : x = i
          · rw [ex]; omega
          · exact h5 x x1 (by omega))
      · refine Z_iconst 25 rfl ?_
        refine Z_zret 26 rfl rfl rfl ⟨Nat.le_refl _, Nat.le_refl _⟩ ?_
        exact ⟨bF (fun z => by have := z.2 i h2 (by omega); have e0 : stB (Int.toNat 3) i = stB 3 i := rfl; omega), rfl⟩
theorem c_D_isWord3 (pla beg len : Int) (hn : 0 ≤ n ∧ n ≤ 120) (hb : 0 ≤ beg ∧ beg + len ≤ n) (hl0 : 0 ≤ len) (hbt : ∀ i, 0 ≤ b i ∧ b i ≤ 127) : Con l M_D_isWord R_D_isWord 0 0 false [.ref 0, .int (iI beg), .int (iI len), .ref 10] (eRd b n rt pla pcs fau unf cau) (zAb (IsW b beg (beg + len) 3) (fun m => m = eRd b n rt pla pcs fau unf cau)) := by
  have hw : wln 3 = 4 := rfl
  refine Con.of_Z (by decide) D_D_isWord (Nat.le_of_ble_eq_true rfl) ?_
  refine Z_iload_n 0 rfl rfl rfl ?_
  refine Z_aload_n 1 rfl rfl rfl ?_
  refine Z_callVip (M' := M_J0_length) 2 [10, 16, 6, 19, 20, 21, 22] rfl l_D_89 C_J0_length (c_J0_length l 3 4 (by omega)) ⟨by decide, (zEL.c (Or.inl rfl) (zEL.c (Or.inl rfl) (zEL.c (Or.inl rfl) (zEL.c (Or.inl rfl) (zEL.c (Or.inl rfl) (zEL.c (Or.inl rfl) (zEL.c (Or.inl rfl) zEL.n)))))))⟩ (Or.inr ⟨_, _, rfl, rfl⟩) rfl rfl rfl (Nat.le_of_ble_eq_true rfl) ⟨rfl, rfl, Nat.le_of_ble_eq_true rfl, Nat.le_of_ble_eq_true rfl⟩ ⟨Nat.zero_le _, Nat.zero_le _⟩ ?_
  refine Z_icmp_eq 3 rfl (tgt := 10) rfl (by omega) (by omega) (fun c5 => ?_) (fun c5 => ?_)
  · refine Z_iconst 6 rfl ?_
    refine Z_istore 7 rfl (Nat.le_of_ble_eq_true rfl) (lv' := [(4, .int _), (0, .ref _), (1, .int _), (2, .int _), (3, .ref _)]) rfl ?_
    refine Z_pick [0, 1, 2, 3, 4] (lv' := [(0, .ref _), (1, .int _), (2, .int _), (3, .ref _), (4, .int _)]) rfl ?_
    exact lp_D_isWord3 l b n rt pcs fau unf cau pla beg len hn hb (by omega) hbt 5 0 (by omega) (by omega) (by omega) (fun x x1 x2 => by omega)
  · refine Z_iconst 4 rfl ?_
    refine Z_zret 5 rfl rfl rfl ⟨Nat.le_refl _, Nat.le_refl _⟩ ?_
    exact ⟨bF (fun z => by have := z.1; omega), rfl⟩
theorem c_D_wordOf3 (pla : Int) : Con l M_D_wordOf R_D_wordOf 0 0 false [.int (iI 3)] (eRd b n rt pla pcs fau unf cau) (zAr 10 (fun m => m = eRd b n rt pla pcs fau unf cau)) := by
  refine Con.of_Z (by decide) D_D_wordOf (Nat.le_of_ble_eq_true rfl) ?_
  refine Z_iload_n 0 rfl rfl rfl ?_
  rcases Classical.em ((3 : Int) < 0 ∨ 4 < (3 : Int)) with cs | cs
  · refine Z_tabOut 1 rfl (by omega) cs (tgt := 51) rfl ?_
    refine Z_ldcS 12 (q := 12) rfl rfl rfl rfl ?_
    refine Z_aret 13 rfl rfl ⟨Nat.le_refl _, Nat.le_refl _⟩ ?_
    first | (exfalso; omega) | exact ⟨rfl, rfl⟩
  rcases (show (3 : Int) = 0 ∨ (3 : Int) = 1 ∨ (3 : Int) = 2 ∨ (3 : Int) = 3 ∨ (3 : Int) = 4 by omega) with cs | cs | cs | cs | cs
  · refine Z_ci cs ?_
    refine Z_tabIn 1 rfl (by decide) (by decide) (by decide) (off := 35) rfl (tgt := 36) rfl ?_
    refine Z_ldcS 2 (q := 7) rfl rfl rfl rfl ?_
    refine Z_aret 3 rfl rfl ⟨Nat.le_refl _, Nat.le_refl _⟩ ?_
    first | (exfalso; omega) | exact ⟨rfl, rfl⟩
  · refine Z_ci cs ?_
    refine Z_tabIn 1 rfl (by decide) (by decide) (by decide) (off := 38) rfl (tgt := 39) rfl ?_
    refine Z_ldcS 4 (q := 8) rfl rfl rfl rfl ?_
    refine Z_aret 5 rfl rfl ⟨Nat.le_refl _, Nat.le_refl _⟩ ?_
    first | (exfalso; omega) | exact ⟨rfl, rfl⟩
  · refine Z_ci cs ?_
    refine Z_tabIn 1 rfl (by decide) (by decide) (by decide) (off := 41) rfl (tgt := 42) rfl ?_
    refine Z_ldcS 6 (q := 9) rfl rfl rfl rfl ?_
    refine Z_aret 7 rfl rfl ⟨Nat.le_refl _, Nat.le_refl _⟩ ?_
    first | (exfalso; omega) | exact ⟨rfl, rfl⟩
  · refine Z_ci cs ?_
    refine Z_tabIn 1 rfl (by decide) (by decide) (by decide) (off := 44) rfl (tgt := 45) rfl ?_
    refine Z_ldcS 8 (q := 10) rfl rfl rfl rfl ?_
    refine Z_aret 9 rfl rfl ⟨Nat.le_refl _, Nat.le_refl _⟩ ?_
    first | (exfalso; omega) | exact ⟨rfl, rfl⟩
  · refine Z_ci cs ?_
    refine Z_tabIn 1 rfl (by decide) (by decide) (by decide) (off := 47) rfl (tgt := 48) rfl ?_
    refine Z_ldcS 10 (q := 11) rfl rfl rfl rfl ?_
    refine Z_aret 11 rfl rfl ⟨Nat.le_refl _, Nat.le_refl _⟩ ?_
    first | (exfalso; omega) | exact ⟨rfl, rfl⟩
theorem lp_D_isWord4 (pla beg len : Int) (hn : 0 ≤ n ∧ n ≤ 120) (hb : 0 ≤ beg ∧ beg + len ≤ n) (hl : len = 5) (hbt : ∀ i, 0 ≤ b i ∧ b i ≤ 127) : ∀ (d : Nat) (i : Int), 0 ≤ i → i ≤ len → len - i < d → (∀ x, 0 ≤ x → x < i → b (beg + x) = stB 4 x) → Z (l, M_D_isWord, R_D_isWord, (0, 0), false, zAb (IsW b beg (beg + len) 4) (fun m => m = eRd b n rt pla pcs fau unf cau)) 0 0 (eRd b n rt pla pcs fau unf cau) 13 [(0, .ref 0), (1, .int (iI beg)), (2, .int (iI len)), (3, .ref 11), (4, .int (iI i))] [] := by
  have hw : wln 4 = 5 := rfl
  intro d
  induction d with
  | zero => intro i h2 h3 h4; omega
  | succ d ih =>
    intro i h2 h3 h4 h5
    have hb2 := hbt (beg + i)
    refine Z_iload 8 rfl rfl ?_
    refine Z_iload_n 9 rfl rfl rfl ?_
    refine Z_icmp_ge 10 rfl (tgt := 56) rfl (by omega) (by omega) (fun c16 => ?_) (fun c16 => ?_)
    · refine Z_iconst 29 rfl ?_
      refine Z_zret 30 rfl rfl rfl ⟨Nat.le_refl _, Nat.le_refl _⟩ ?_
      exact ⟨bT ⟨by omega, fun x x1 x2 => h5 x x1 (by omega)⟩, rfl⟩
    · refine Z_iload 11 rfl rfl ?_
      refine Z_aload_n 12 rfl rfl rfl ?_
      refine Z_callVip (M' := M_J0_length) 13 [11, 17, 6, 19, 20, 21, 22] rfl l_D_89 C_J0_length (c_J0_length l 4 5 (by omega)) ⟨by decide, (zEL.c (Or.inl rfl) (zEL.c (Or.inl rfl) (zEL.c (Or.inl rfl) (zEL.c (Or.inl rfl) (zEL.c (Or.inl rfl) (zEL.c (Or.inl rfl) (zEL.c (Or.inl rfl) zEL.n)))))))⟩ (Or.inr ⟨_, _, rfl, rfl⟩) rfl rfl rfl (Nat.le_of_ble_eq_true rfl) ⟨rfl, rfl, Nat.le_of_ble_eq_true rfl, Nat.le_of_ble_eq_true rfl⟩ ⟨Nat.zero_le _, Nat.zero_le _⟩ ?_
      refine Z_icmp_ge 14 rfl (tgt := 56) rfl (by omega) (by omega) (fun c25 => ?_) (fun c25 => ?_)
      · exfalso; omega
      have hs := stB_bd 4 i (by omega) (by omega)
      refine Z_aload_n 15 rfl rfl rfl ?_
      refine Z_get 16 rfl f_D_9 rfl rfl ?_
      refine Z_iload_n 17 rfl rfl rfl ?_
      refine Z_iload 18 rfl rfl ?_
      refine Z_iadd 19 rfl ?_
      refine Z_callSNip (M' := M_C_pick) 20 [1] rfl l_D_77 C_C_pick (pick_in l 120 (by omega) b (beg + i) (by omega)) ⟨by decide, (zEL.c (Or.inr ⟨_, _, rfl, rfl, by decide⟩) zEL.n)⟩ rfl rfl rfl (Nat.le_of_ble_eq_true rfl) ⟨rfl, rfl, Nat.le_of_ble_eq_true rfl, Nat.le_of_ble_eq_true rfl⟩ ⟨Nat.zero_le _, Nat.zero_le _⟩ ?_
      refine Z_aload_n 21 rfl rfl rfl ?_
      refine Z_iload 22 rfl rfl ?_
      refine Z_callVip (M' := M_J0_charAt) 23 [11, 17, 6, 19, 20, 21, 22] rfl l_D_94 C_J0_charAt (c_J0_charAt l 4 5 (by omega) i (by omega) hs) ⟨by decide, (zEL.c (Or.inl rfl) (zEL.c (Or.inl rfl) (zEL.c (Or.inl rfl) (zEL.c (Or.inl rfl) (zEL.c (Or.inl rfl) (zEL.c (Or.inl rfl) (zEL.c (Or.inl rfl) zEL.n)))))))⟩ (Or.inr ⟨_, _, rfl, rfl⟩) rfl rfl rfl (Nat.le_of_ble_eq_true rfl) ⟨rfl, rfl, Nat.le_of_ble_eq_true rfl, Nat.le_of_ble_eq_true rfl⟩ ⟨Nat.zero_le _, Nat.zero_le _⟩ ?_
      refine Z_icmp_eq 24 rfl (tgt := 50) rfl (by omega) (by omega) (fun c45 => ?_) (fun c45 => ?_)
      · refine Z_iinc 27 rfl rfl (Nat.le_of_ble_eq_true rfl) (lv' := [(4, .int _), (0, .ref _), (1, .int _), (2, .int _), (3, .ref _)]) rfl ?_
        refine Z_goto 28 rfl (tgt := 13) rfl ?_
        refine Z_pick [0, 1, 2, 3, 4] (lv' := [(0, .ref _), (1, .int _), (2, .int _), (3, .ref _), (4, .int _)]) rfl ?_
        exact ih (i + 1) (by omega) (by omega) (by omega) (fun x x1 x2 => by
          by_cases ex : x = i
          · rw [ex]; omega
          · exact h5 x x1 (by omega))
      · refine Z_iconst 25 rfl ?_
        refine Z_zret 26 rfl rfl rfl ⟨Nat.le_refl _, Nat.le_refl _⟩ ?_
        exact ⟨bF (fun z => by have := z.2 i h2 (by omega); have e0 : stB (Int.toNat 4) i = stB 4 i := rfl; omega), rfl⟩
theorem c_D_isWord4 (pla beg len : Int) (hn : 0 ≤ n ∧ n ≤ 120) (hb : 0 ≤ beg ∧ beg + len ≤ n) (hl0 : 0 ≤ len) (hbt : ∀ i, 0 ≤ b i ∧ b i ≤ 127) : Con l M_D_isWord R_D_isWord 0 0 false [.ref 0, .int (iI beg), .int (iI len), .ref 11] (eRd b n rt pla pcs fau unf cau) (zAb (IsW b beg (beg + len) 4) (fun m => m = eRd b n rt pla pcs fau unf cau)) := by
  have hw : wln 4 = 5 := rfl
  refine Con.of_Z (by decide) D_D_isWord (Nat.le_of_ble_eq_true rfl) ?_
  refine Z_iload_n 0 rfl rfl rfl ?_
  refine Z_aload_n 1 rfl rfl rfl ?_
  refine Z_callVip (M' := M_J0_length) 2 [11, 17, 6, 19, 20, 21, 22] rfl l_D_89 C_J0_length (c_J0_length l 4 5 (by omega)) ⟨by decide, (zEL.c (Or.inl rfl) (zEL.c (Or.inl rfl) (zEL.c (Or.inl rfl) (zEL.c (Or.inl rfl) (zEL.c (Or.inl rfl) (zEL.c (Or.inl rfl) (zEL.c (Or.inl rfl) zEL.n)))))))⟩ (Or.inr ⟨_, _, rfl, rfl⟩) rfl rfl rfl (Nat.le_of_ble_eq_true rfl) ⟨rfl, rfl, Nat.le_of_ble_eq_true rfl, Nat.le_of_ble_eq_true rfl⟩ ⟨Nat.zero_le _, Nat.zero_le _⟩ ?_
  refine Z_icmp_eq 3 rfl (tgt := 10) rfl (by omega) (by omega) (fun c5 => ?_) (fun c5 => ?_)
  · refine Z_iconst 6 rfl ?_
    refine Z_istore 7 rfl (Nat.le_of_ble_eq_true rfl) (lv' := [(4, .int _), (0, .ref _), (1, .int _), (2, .int _), (3, .ref _)]) rfl ?_
    refine Z_pick [0, 1, 2, 3, 4] (lv' := [(0, .ref _), (1, .int _), (2, .int _), (3, .ref _), (4, .int _)]) rfl ?_
    exact lp_D_isWord4 l b n rt pcs fau unf cau pla beg len hn hb (by omega) hbt 6 0 (by omega) (by omega) (by omega) (fun x x1 x2 => by omega)
  · refine Z_iconst 4 rfl ?_
    refine Z_zret 5 rfl rfl rfl ⟨Nat.le_refl _, Nat.le_refl _⟩ ?_
    exact ⟨bF (fun z => by have := z.1; omega), rfl⟩
theorem c_D_wordOf4 (pla : Int) : Con l M_D_wordOf R_D_wordOf 0 0 false [.int (iI 4)] (eRd b n rt pla pcs fau unf cau) (zAr 11 (fun m => m = eRd b n rt pla pcs fau unf cau)) := by
  refine Con.of_Z (by decide) D_D_wordOf (Nat.le_of_ble_eq_true rfl) ?_
  refine Z_iload_n 0 rfl rfl rfl ?_
  rcases Classical.em ((4 : Int) < 0 ∨ 4 < (4 : Int)) with cs | cs
  · refine Z_tabOut 1 rfl (by omega) cs (tgt := 51) rfl ?_
    refine Z_ldcS 12 (q := 12) rfl rfl rfl rfl ?_
    refine Z_aret 13 rfl rfl ⟨Nat.le_refl _, Nat.le_refl _⟩ ?_
    first | (exfalso; omega) | exact ⟨rfl, rfl⟩
  rcases (show (4 : Int) = 0 ∨ (4 : Int) = 1 ∨ (4 : Int) = 2 ∨ (4 : Int) = 3 ∨ (4 : Int) = 4 by omega) with cs | cs | cs | cs | cs
  · refine Z_ci cs ?_
    refine Z_tabIn 1 rfl (by decide) (by decide) (by decide) (off := 35) rfl (tgt := 36) rfl ?_
    refine Z_ldcS 2 (q := 7) rfl rfl rfl rfl ?_
    refine Z_aret 3 rfl rfl ⟨Nat.le_refl _, Nat.le_refl _⟩ ?_
    first | (exfalso; omega) | exact ⟨rfl, rfl⟩
  · refine Z_ci cs ?_
    refine Z_tabIn 1 rfl (by decide) (by decide) (by decide) (off := 38) rfl (tgt := 39) rfl ?_
    refine Z_ldcS 4 (q := 8) rfl rfl rfl rfl ?_
    refine Z_aret 5 rfl rfl ⟨Nat.le_refl _, Nat.le_refl _⟩ ?_
    first | (exfalso; omega) | exact ⟨rfl, rfl⟩
  · refine Z_ci cs ?_
    refine Z_tabIn 1 rfl (by decide) (by decide) (by decide) (off := 41) rfl (tgt := 42) rfl ?_
    refine Z_ldcS 6 (q := 9) rfl rfl rfl rfl ?_
    refine Z_aret 7 rfl rfl ⟨Nat.le_refl _, Nat.le_refl _⟩ ?_
    first | (exfalso; omega) | exact ⟨rfl, rfl⟩
  · refine Z_ci cs ?_
    refine Z_tabIn 1 rfl (by decide) (by decide) (by decide) (off := 44) rfl (tgt := 45) rfl ?_
    refine Z_ldcS 8 (q := 10) rfl rfl rfl rfl ?_
    refine Z_aret 9 rfl rfl ⟨Nat.le_refl _, Nat.le_refl _⟩ ?_
    first | (exfalso; omega) | exact ⟨rfl, rfl⟩
  · refine Z_ci cs ?_
    refine Z_tabIn 1 rfl (by decide) (by decide) (by decide) (off := 47) rfl (tgt := 48) rfl ?_
    refine Z_ldcS 10 (q := 11) rfl rfl rfl rfl ?_
    refine Z_aret 11 rfl rfl ⟨Nat.le_refl _, Nat.le_refl _⟩ ?_
    first | (exfalso; omega) | exact ⟨rfl, rfl⟩
theorem lp_D_isWord5 (pla beg len : Int) (hn : 0 ≤ n ∧ n ≤ 120) (hb : 0 ≤ beg ∧ beg + len ≤ n) (hl : len = 7) (hbt : ∀ i, 0 ≤ b i ∧ b i ≤ 127) : ∀ (d : Nat) (i : Int), 0 ≤ i → i ≤ len → len - i < d → (∀ x, 0 ≤ x → x < i → b (beg + x) = stB 5 x) → Z (l, M_D_isWord, R_D_isWord, (0, 0), false, zAb (IsW b beg (beg + len) 5) (fun m => m = eRd b n rt pla pcs fau unf cau)) 0 0 (eRd b n rt pla pcs fau unf cau) 13 [(0, .ref 0), (1, .int (iI beg)), (2, .int (iI len)), (3, .ref 12), (4, .int (iI i))] [] := by
  have hw : wln 5 = 7 := rfl
  intro d
  induction d with
  | zero => intro i h2 h3 h4; omega
  | succ d ih =>
    intro i h2 h3 h4 h5
    have hb2 := hbt (beg + i)
    refine Z_iload 8 rfl rfl ?_
    refine Z_iload_n 9 rfl rfl rfl ?_
    refine Z_icmp_ge 10 rfl (tgt := 56) rfl (by omega) (by omega) (fun c16 => ?_) (fun c16 => ?_)
    · refine Z_iconst 29 rfl ?_
      refine Z_zret 30 rfl rfl rfl ⟨Nat.le_refl _, Nat.le_refl _⟩ ?_
      exact ⟨bT ⟨by omega, fun x x1 x2 => h5 x x1 (by omega)⟩, rfl⟩
    · refine Z_iload 11 rfl rfl ?_
      refine Z_aload_n 12 rfl rfl rfl ?_
      refine Z_callVip (M' := M_J0_length) 13 [12, 18, 6, 19, 20, 21, 22] rfl l_D_89 C_J0_length (c_J0_length l 5 7 (by omega)) ⟨by decide, (zEL.c (Or.inl rfl) (zEL.c (Or.inl rfl) (zEL.c (Or.inl rfl) (zEL.c (Or.inl rfl) (zEL.c (Or.inl rfl) (zEL.c (Or.inl rfl) (zEL.c (Or.inl rfl) zEL.n)))))))⟩ (Or.inr ⟨_, _, rfl, rfl⟩) rfl rfl rfl (Nat.le_of_ble_eq_true rfl) ⟨rfl, rfl, Nat.le_of_ble_eq_true rfl, Nat.le_of_ble_eq_true rfl⟩ ⟨Nat.zero_le _, Nat.zero_le _⟩ ?_
      refine Z_icmp_ge 14 rfl (tgt := 56) rfl (by omega) (by omega) (fun c25 => ?_) (fun c25 => ?_)
      · exfalso; omega
      have hs := stB_bd 5 i (by omega) (by omega)
      refine Z_aload_n 15 rfl rfl rfl ?_
      refine Z_get 16 rfl f_D_9 rfl rfl ?_
      refine Z_iload_n 17 rfl rfl rfl ?_
      refine Z_iload 18 rfl rfl ?_
      refine Z_iadd 19 rfl ?_
      refine Z_callSNip (M' := M_C_pick) 20 [1] rfl l_D_77 C_C_pick (pick_in l 120 (by omega) b (beg + i) (by omega)) ⟨by decide, (zEL.c (Or.inr ⟨_, _, rfl, rfl, by decide⟩) zEL.n)⟩ rfl rfl rfl (Nat.le_of_ble_eq_true rfl) ⟨rfl, rfl, Nat.le_of_ble_eq_true rfl, Nat.le_of_ble_eq_true rfl⟩ ⟨Nat.zero_le _, Nat.zero_le _⟩ ?_
      refine Z_aload_n 21 rfl rfl rfl ?_
      refine Z_iload 22 rfl rfl ?_
      refine Z_callVip (M' := M_J0_charAt) 23 [12, 18, 6, 19, 20, 21, 22] rfl l_D_94 C_J0_charAt (c_J0_charAt l 5 7 (by omega) i (by omega) hs) ⟨by decide, (zEL.c (Or.inl rfl) (zEL.c (Or.inl rfl) (zEL.c (Or.inl rfl) (zEL.c (Or.inl rfl) (zEL.c (Or.inl rfl) (zEL.c (Or.inl rfl) (zEL.c (Or.inl rfl) zEL.n)))))))⟩ (Or.inr ⟨_, _, rfl, rfl⟩) rfl rfl rfl (Nat.le_of_ble_eq_true rfl) ⟨rfl, rfl, Nat.le_of_ble_eq_true rfl, Nat.le_of_ble_eq_true rfl⟩ ⟨Nat.zero_le _, Nat.zero_le _⟩ ?_
      refine Z_icmp_eq 24 rfl (tgt := 50) rfl (by omega) (by omega) (fun c45 => ?_) (fun c45 => ?_)
      · refine Z_iinc 27 rfl rfl (Nat.le_of_ble_eq_true rfl) (lv' := [(4, .int _), (0, .ref _), (1, .int _), (2, .int _), (3, .ref _)]) rfl ?_
        refine Z_goto 28 rfl (tgt := 13) rfl ?_
        refine Z_pick [0, 1, 2, 3, 4] (lv' := [(0, .ref _), (1, .int _), (2, .int _), (3, .ref _), (4, .int _)]) rfl ?_
        exact ih (i + 1) (by omega) (by omega) (by omega) (fun x x1 x2 => by
          by_cases ex : x = i
          · rw [ex]; omega
          · exact h5 x x1 (by omega))
      · refine Z_iconst 25 rfl ?_
        refine Z_zret 26 rfl rfl rfl ⟨Nat.le_refl _, Nat.le_refl _⟩ ?_
        exact ⟨bF (fun z => by have := z.2 i h2 (by omega); have e0 : stB (Int.toNat 5) i = stB 5 i := rfl; omega), rfl⟩
theorem c_D_isWord5 (pla beg len : Int) (hn : 0 ≤ n ∧ n ≤ 120) (hb : 0 ≤ beg ∧ beg + len ≤ n) (hl0 : 0 ≤ len) (hbt : ∀ i, 0 ≤ b i ∧ b i ≤ 127) : Con l M_D_isWord R_D_isWord 0 0 false [.ref 0, .int (iI beg), .int (iI len), .ref 12] (eRd b n rt pla pcs fau unf cau) (zAb (IsW b beg (beg + len) 5) (fun m => m = eRd b n rt pla pcs fau unf cau)) := by
  have hw : wln 5 = 7 := rfl
  refine Con.of_Z (by decide) D_D_isWord (Nat.le_of_ble_eq_true rfl) ?_
  refine Z_iload_n 0 rfl rfl rfl ?_
  refine Z_aload_n 1 rfl rfl rfl ?_
  refine Z_callVip (M' := M_J0_length) 2 [12, 18, 6, 19, 20, 21, 22] rfl l_D_89 C_J0_length (c_J0_length l 5 7 (by omega)) ⟨by decide, (zEL.c (Or.inl rfl) (zEL.c (Or.inl rfl) (zEL.c (Or.inl rfl) (zEL.c (Or.inl rfl) (zEL.c (Or.inl rfl) (zEL.c (Or.inl rfl) (zEL.c (Or.inl rfl) zEL.n)))))))⟩ (Or.inr ⟨_, _, rfl, rfl⟩) rfl rfl rfl (Nat.le_of_ble_eq_true rfl) ⟨rfl, rfl, Nat.le_of_ble_eq_true rfl, Nat.le_of_ble_eq_true rfl⟩ ⟨Nat.zero_le _, Nat.zero_le _⟩ ?_
  refine Z_icmp_eq 3 rfl (tgt := 10) rfl (by omega) (by omega) (fun c5 => ?_) (fun c5 => ?_)
  · refine Z_iconst 6 rfl ?_
    refine Z_istore 7 rfl (Nat.le_of_ble_eq_true rfl) (lv' := [(4, .int _), (0, .ref _), (1, .int _), (2, .int _), (3, .ref _)]) rfl ?_
    refine Z_pick [0, 1, 2, 3, 4] (lv' := [(0, .ref _), (1, .int _), (2, .int _), (3, .ref _), (4, .int _)]) rfl ?_
    exact lp_D_isWord5 l b n rt pcs fau unf cau pla beg len hn hb (by omega) hbt 8 0 (by omega) (by omega) (by omega) (fun x x1 x2 => by omega)
  · refine Z_iconst 4 rfl ?_
    refine Z_zret 5 rfl rfl rfl ⟨Nat.le_refl _, Nat.le_refl _⟩ ?_
    exact ⟨bF (fun z => by have := z.1; omega), rfl⟩
theorem c_D_wordOf5 (pla : Int) : Con l M_D_wordOf R_D_wordOf 0 0 false [.int (iI 5)] (eRd b n rt pla pcs fau unf cau) (zAr 12 (fun m => m = eRd b n rt pla pcs fau unf cau)) := by
  refine Con.of_Z (by decide) D_D_wordOf (Nat.le_of_ble_eq_true rfl) ?_
  refine Z_iload_n 0 rfl rfl rfl ?_
  rcases Classical.em ((5 : Int) < 0 ∨ 4 < (5 : Int)) with cs | cs
  · refine Z_tabOut 1 rfl (by omega) cs (tgt := 51) rfl ?_
    refine Z_ldcS 12 (q := 12) rfl rfl rfl rfl ?_
    refine Z_aret 13 rfl rfl ⟨Nat.le_refl _, Nat.le_refl _⟩ ?_
    first | (exfalso; omega) | exact ⟨rfl, rfl⟩
  rcases (show (5 : Int) = 0 ∨ (5 : Int) = 1 ∨ (5 : Int) = 2 ∨ (5 : Int) = 3 ∨ (5 : Int) = 4 by omega) with cs | cs | cs | cs | cs
  · refine Z_ci cs ?_
    refine Z_tabIn 1 rfl (by decide) (by decide) (by decide) (off := 35) rfl (tgt := 36) rfl ?_
    refine Z_ldcS 2 (q := 7) rfl rfl rfl rfl ?_
    refine Z_aret 3 rfl rfl ⟨Nat.le_refl _, Nat.le_refl _⟩ ?_
    first | (exfalso; omega) | exact ⟨rfl, rfl⟩
  · refine Z_ci cs ?_
    refine Z_tabIn 1 rfl (by decide) (by decide) (by decide) (off := 38) rfl (tgt := 39) rfl ?_
    refine Z_ldcS 4 (q := 8) rfl rfl rfl rfl ?_
    refine Z_aret 5 rfl rfl ⟨Nat.le_refl _, Nat.le_refl _⟩ ?_
    first | (exfalso; omega) | exact ⟨rfl, rfl⟩
  · refine Z_ci cs ?_
    refine Z_tabIn 1 rfl (by decide) (by decide) (by decide) (off := 41) rfl (tgt := 42) rfl ?_
    refine Z_ldcS 6 (q := 9) rfl rfl rfl rfl ?_
    refine Z_aret 7 rfl rfl ⟨Nat.le_refl _, Nat.le_refl _⟩ ?_
    first | (exfalso; omega) | exact ⟨rfl, rfl⟩
  · refine Z_ci cs ?_
    refine Z_tabIn 1 rfl (by decide) (by decide) (by decide) (off := 44) rfl (tgt := 45) rfl ?_
    refine Z_ldcS 8 (q := 10) rfl rfl rfl rfl ?_
    refine Z_aret 9 rfl rfl ⟨Nat.le_refl _, Nat.le_refl _⟩ ?_
    first | (exfalso; omega) | exact ⟨rfl, rfl⟩
  · refine Z_ci cs ?_
    refine Z_tabIn 1 rfl (by decide) (by decide) (by decide) (off := 47) rfl (tgt := 48) rfl ?_
    refine Z_ldcS 10 (q := 11) rfl rfl rfl rfl ?_
    refine Z_aret 11 rfl rfl ⟨Nat.le_refl _, Nat.le_refl _⟩ ?_
    first | (exfalso; omega) | exact ⟨rfl, rfl⟩
theorem lp6_D_readKind (pla beg : Int) (hE : IsE b n beg pla) (hw : ∀ j, 0 ≤ j → j < 6 → ¬ IsW b beg pla j) : Z (l, M_D_readKind, R_D_readKind, (0, 0), false, zAi (kd2 b n beg) (fun m => m = eRd b n rt (wE b n beg) pcs fau unf cau)) 0 0 (eRd b n rt pla pcs fau unf cau) 49 [(0, .ref 0), (1, .int (iI beg)), (2, .int (iI 6))] [] := by
  refine Z_iload_n 26 rfl rfl rfl ?_
  refine Z_bipush 27 rfl rfl ?_
  refine Z_icmp_ge 28 rfl (tgt := 81) rfl (by omega) (by omega) (fun c52 => ?_) (fun c52 => ?_)
  rotate_left
  · exfalso; omega
  refine Z_iconst 43 rfl ?_
  refine Z_iret 44 rfl rfl ⟨Nat.le_refl _, Nat.le_refl _⟩ ?_
  exact ⟨by rw [kd2_n hE hw], by rw [wE_eq hE]⟩
theorem lp5_D_readKind (pla beg : Int) (hn : 0 ≤ n ∧ n ≤ 120) (hb : 0 ≤ beg ∧ beg ≤ pla ∧ pla ≤ n) (hbt : ∀ i, 0 ≤ b i ∧ b i ≤ 127) (hE : IsE b n beg pla) (hw : ∀ j, 0 ≤ j → j < 5 → ¬ IsW b beg pla j) : Z (l, M_D_readKind, R_D_readKind, (0, 0), false, zAi (kd2 b n beg) (fun m => m = eRd b n rt (wE b n beg) pcs fau unf cau)) 0 0 (eRd b n rt pla pcs fau unf cau) 49 [(0, .ref 0), (1, .int (iI beg)), (2, .int (iI 5))] [] := by
  have epl : beg + (pla - beg) = pla := by omega
  refine Z_iload_n 26 rfl rfl rfl ?_
  refine Z_bipush 27 rfl rfl ?_
  refine Z_icmp_ge 28 rfl (tgt := 81) rfl (by omega) (by omega) (fun c52 => ?_) (fun c52 => ?_)
  · exfalso; omega
  refine Z_aload_n 29 rfl rfl rfl ?_
  refine Z_iload_n 30 rfl rfl rfl ?_
  refine Z_aload_n 31 rfl rfl rfl ?_
  refine Z_get 32 rfl f_D_26 rfl rfl ?_
  refine Z_iload_n 33 rfl rfl rfl ?_
  refine Z_isub 34 rfl ?_
  refine Z_iload_n 35 rfl rfl rfl ?_
  refine Z_callSrp (M' := M_D_wordOf) 36 isD rfl l_D_81 C_D_wordOf (c_D_wordOf5 l b n rt pcs fau unf cau pla) (emD ..) rfl rfl rfl (Nat.le_of_ble_eq_true rfl) ⟨rfl, rfl, Nat.le_of_ble_eq_true rfl, Nat.le_of_ble_eq_true rfl⟩ ⟨Nat.zero_le _, Nat.zero_le _⟩ ?_
  refine Z_callVbp (M' := M_D_isWord) 37 isD rfl l_D_85 C_D_isWord (c_D_isWord5 l b n rt pcs fau unf cau pla beg (pla - beg) hn (by omega) (by omega) hbt) (emD ..) (Or.inl ⟨_, _, _, _, rfl, rfl⟩) rfl rfl rfl (Nat.le_of_ble_eq_true rfl) ⟨rfl, rfl, Nat.le_of_ble_eq_true rfl, Nat.le_of_ble_eq_true rfl⟩ ⟨Nat.zero_le _, Nat.zero_le _⟩ ?_
  rw [epl]
  refine Z_ifb_eq 38 rfl (tgt := 75) rfl (fun c70 => ?_) (fun c70 => ?_)
  · refine Z_iinc 41 rfl rfl (Nat.le_of_ble_eq_true rfl) (lv' := [(2, .int _), (0, .ref _), (1, .int _)]) rfl ?_
    refine Z_goto 42 rfl (tgt := 49) rfl ?_
    refine Z_pick [0, 1, 2] (lv' := [(0, .ref _), (1, .int _), (2, .int _)]) rfl ?_
    exact lp6_D_readKind l b n rt pcs fau unf cau pla beg  hE (fun j j1 j2 => by
      by_cases ej : j = 5
      · rw [ej]; exact c70
      · exact hw j j1 (by omega))
  · refine Z_iload_n 39 rfl rfl rfl ?_
    refine Z_iret 40 rfl rfl ⟨Nat.le_refl _, Nat.le_refl _⟩ ?_
    exact ⟨by rw [kd2_y hE ⟨by omega, by omega, c70⟩ hw], by rw [wE_eq hE]⟩
theorem lp4_D_readKind (pla beg : Int) (hn : 0 ≤ n ∧ n ≤ 120) (hb : 0 ≤ beg ∧ beg ≤ pla ∧ pla ≤ n) (hbt : ∀ i, 0 ≤ b i ∧ b i ≤ 127) (hE : IsE b n beg pla) (hw : ∀ j, 0 ≤ j → j < 4 → ¬ IsW b beg pla j) : Z (l, M_D_readKind, R_D_readKind, (0, 0), false, zAi (kd2 b n beg) (fun m => m = eRd b n rt (wE b n beg) pcs fau unf cau)) 0 0 (eRd b n rt pla pcs fau unf cau) 49 [(0, .ref 0), (1, .int (iI beg)), (2, .int (iI 4))] [] := by
  have epl : beg + (pla - beg) = pla := by omega
  refine Z_iload_n 26 rfl rfl rfl ?_
  refine Z_bipush 27 rfl rfl ?_
  refine Z_icmp_ge 28 rfl (tgt := 81) rfl (by omega) (by omega) (fun c52 => ?_) (fun c52 => ?_)
  · exfalso; omega
  refine Z_aload_n 29 rfl rfl rfl ?_
  refine Z_iload_n 30 rfl rfl rfl ?_
  refine Z_aload_n 31 rfl rfl rfl ?_
  refine Z_get 32 rfl f_D_26 rfl rfl ?_
  refine Z_iload_n 33 rfl rfl rfl ?_
  refine Z_isub 34 rfl ?_
  refine Z_iload_n 35 rfl rfl rfl ?_
  refine Z_callSrp (M' := M_D_wordOf) 36 isD rfl l_D_81 C_D_wordOf (c_D_wordOf4 l b n rt pcs fau unf cau pla) (emD ..) rfl rfl rfl (Nat.le_of_ble_eq_true rfl) ⟨rfl, rfl, Nat.le_of_ble_eq_true rfl, Nat.le_of_ble_eq_true rfl⟩ ⟨Nat.zero_le _, Nat.zero_le _⟩ ?_
  refine Z_callVbp (M' := M_D_isWord) 37 isD rfl l_D_85 C_D_isWord (c_D_isWord4 l b n rt pcs fau unf cau pla beg (pla - beg) hn (by omega) (by omega) hbt) (emD ..) (Or.inl ⟨_, _, _, _, rfl, rfl⟩) rfl rfl rfl (Nat.le_of_ble_eq_true rfl) ⟨rfl, rfl, Nat.le_of_ble_eq_true rfl, Nat.le_of_ble_eq_true rfl⟩ ⟨Nat.zero_le _, Nat.zero_le _⟩ ?_
  rw [epl]
  refine Z_ifb_eq 38 rfl (tgt := 75) rfl (fun c70 => ?_) (fun c70 => ?_)
  · refine Z_iinc 41 rfl rfl (Nat.le_of_ble_eq_true rfl) (lv' := [(2, .int _), (0, .ref _), (1, .int _)]) rfl ?_
    refine Z_goto 42 rfl (tgt := 49) rfl ?_
    refine Z_pick [0, 1, 2] (lv' := [(0, .ref _), (1, .int _), (2, .int _)]) rfl ?_
    exact lp5_D_readKind l b n rt pcs fau unf cau pla beg hn hb hbt hE (fun j j1 j2 => by
      by_cases ej : j = 4
      · rw [ej]; exact c70
      · exact hw j j1 (by omega))
  · refine Z_iload_n 39 rfl rfl rfl ?_
    refine Z_iret 40 rfl rfl ⟨Nat.le_refl _, Nat.le_refl _⟩ ?_
    exact ⟨by rw [kd2_y hE ⟨by omega, by omega, c70⟩ hw], by rw [wE_eq hE]⟩
theorem lp3_D_readKind (pla beg : Int) (hn : 0 ≤ n ∧ n ≤ 120) (hb : 0 ≤ beg ∧ beg ≤ pla ∧ pla ≤ n) (hbt : ∀ i, 0 ≤ b i ∧ b i ≤ 127) (hE : IsE b n beg pla) (hw : ∀ j, 0 ≤ j → j < 3 → ¬ IsW b beg pla j) : Z (l, M_D_readKind, R_D_readKind, (0, 0), false, zAi (kd2 b n beg) (fun m => m = eRd b n rt (wE b n beg) pcs fau unf cau)) 0 0 (eRd b n rt pla pcs fau unf cau) 49 [(0, .ref 0), (1, .int (iI beg)), (2, .int (iI 3))] [] := by
  have epl : beg + (pla - beg) = pla := by omega
  refine Z_iload_n 26 rfl rfl rfl ?_
  refine Z_bipush 27 rfl rfl ?_
  refine Z_icmp_ge 28 rfl (tgt := 81) rfl (by omega) (by omega) (fun c52 => ?_) (fun c52 => ?_)
  · exfalso; omega
  refine Z_aload_n 29 rfl rfl rfl ?_
  refine Z_iload_n 30 rfl rfl rfl ?_
  refine Z_aload_n 31 rfl rfl rfl ?_
  refine Z_get 32 rfl f_D_26 rfl rfl ?_
  refine Z_iload_n 33 rfl rfl rfl ?_
  refine Z_isub 34 rfl ?_
  refine Z_iload_n 35 rfl rfl rfl ?_
  refine Z_callSrp (M' := M_D_wordOf) 36 isD rfl l_D_81 C_D_wordOf (c_D_wordOf3 l b n rt pcs fau unf cau pla) (emD ..) rfl rfl rfl (Nat.le_of_ble_eq_true rfl) ⟨rfl, rfl, Nat.le_of_ble_eq_true rfl, Nat.le_of_ble_eq_true rfl⟩ ⟨Nat.zero_le _, Nat.zero_le _⟩ ?_
  refine Z_callVbp (M' := M_D_isWord) 37 isD rfl l_D_85 C_D_isWord (c_D_isWord3 l b n rt pcs fau unf cau pla beg (pla - beg) hn (by omega) (by omega) hbt) (emD ..) (Or.inl ⟨_, _, _, _, rfl, rfl⟩) rfl rfl rfl (Nat.le_of_ble_eq_true rfl) ⟨rfl, rfl, Nat.le_of_ble_eq_true rfl, Nat.le_of_ble_eq_true rfl⟩ ⟨Nat.zero_le _, Nat.zero_le _⟩ ?_
  rw [epl]
  refine Z_ifb_eq 38 rfl (tgt := 75) rfl (fun c70 => ?_) (fun c70 => ?_)
  · refine Z_iinc 41 rfl rfl (Nat.le_of_ble_eq_true rfl) (lv' := [(2, .int _), (0, .ref _), (1, .int _)]) rfl ?_
    refine Z_goto 42 rfl (tgt := 49) rfl ?_
    refine Z_pick [0, 1, 2] (lv' := [(0, .ref _), (1, .int _), (2, .int _)]) rfl ?_
    exact lp4_D_readKind l b n rt pcs fau unf cau pla beg hn hb hbt hE (fun j j1 j2 => by
      by_cases ej : j = 3
      · rw [ej]; exact c70
      · exact hw j j1 (by omega))
  · refine Z_iload_n 39 rfl rfl rfl ?_
    refine Z_iret 40 rfl rfl ⟨Nat.le_refl _, Nat.le_refl _⟩ ?_
    exact ⟨by rw [kd2_y hE ⟨by omega, by omega, c70⟩ hw], by rw [wE_eq hE]⟩
theorem lp2_D_readKind (pla beg : Int) (hn : 0 ≤ n ∧ n ≤ 120) (hb : 0 ≤ beg ∧ beg ≤ pla ∧ pla ≤ n) (hbt : ∀ i, 0 ≤ b i ∧ b i ≤ 127) (hE : IsE b n beg pla) (hw : ∀ j, 0 ≤ j → j < 2 → ¬ IsW b beg pla j) : Z (l, M_D_readKind, R_D_readKind, (0, 0), false, zAi (kd2 b n beg) (fun m => m = eRd b n rt (wE b n beg) pcs fau unf cau)) 0 0 (eRd b n rt pla pcs fau unf cau) 49 [(0, .ref 0), (1, .int (iI beg)), (2, .int (iI 2))] [] := by
  have epl : beg + (pla - beg) = pla := by omega
  refine Z_iload_n 26 rfl rfl rfl ?_
  refine Z_bipush 27 rfl rfl ?_
  refine Z_icmp_ge 28 rfl (tgt := 81) rfl (by omega) (by omega) (fun c52 => ?_) (fun c52 => ?_)
  · exfalso; omega
  refine Z_aload_n 29 rfl rfl rfl ?_
  refine Z_iload_n 30 rfl rfl rfl ?_
  refine Z_aload_n 31 rfl rfl rfl ?_
  refine Z_get 32 rfl f_D_26 rfl rfl ?_
  refine Z_iload_n 33 rfl rfl rfl ?_
  refine Z_isub 34 rfl ?_
  refine Z_iload_n 35 rfl rfl rfl ?_
  refine Z_callSrp (M' := M_D_wordOf) 36 isD rfl l_D_81 C_D_wordOf (c_D_wordOf2 l b n rt pcs fau unf cau pla) (emD ..) rfl rfl rfl (Nat.le_of_ble_eq_true rfl) ⟨rfl, rfl, Nat.le_of_ble_eq_true rfl, Nat.le_of_ble_eq_true rfl⟩ ⟨Nat.zero_le _, Nat.zero_le _⟩ ?_
  refine Z_callVbp (M' := M_D_isWord) 37 isD rfl l_D_85 C_D_isWord (c_D_isWord2 l b n rt pcs fau unf cau pla beg (pla - beg) hn (by omega) (by omega) hbt) (emD ..) (Or.inl ⟨_, _, _, _, rfl, rfl⟩) rfl rfl rfl (Nat.le_of_ble_eq_true rfl) ⟨rfl, rfl, Nat.le_of_ble_eq_true rfl, Nat.le_of_ble_eq_true rfl⟩ ⟨Nat.zero_le _, Nat.zero_le _⟩ ?_
  rw [epl]
  refine Z_ifb_eq 38 rfl (tgt := 75) rfl (fun c70 => ?_) (fun c70 => ?_)
  · refine Z_iinc 41 rfl rfl (Nat.le_of_ble_eq_true rfl) (lv' := [(2, .int _), (0, .ref _), (1, .int _)]) rfl ?_
    refine Z_goto 42 rfl (tgt := 49) rfl ?_
    refine Z_pick [0, 1, 2] (lv' := [(0, .ref _), (1, .int _), (2, .int _)]) rfl ?_
    exact lp3_D_readKind l b n rt pcs fau unf cau pla beg hn hb hbt hE (fun j j1 j2 => by
      by_cases ej : j = 2
      · rw [ej]; exact c70
      · exact hw j j1 (by omega))
  · refine Z_iload_n 39 rfl rfl rfl ?_
    refine Z_iret 40 rfl rfl ⟨Nat.le_refl _, Nat.le_refl _⟩ ?_
    exact ⟨by rw [kd2_y hE ⟨by omega, by omega, c70⟩ hw], by rw [wE_eq hE]⟩
theorem lp1_D_readKind (pla beg : Int) (hn : 0 ≤ n ∧ n ≤ 120) (hb : 0 ≤ beg ∧ beg ≤ pla ∧ pla ≤ n) (hbt : ∀ i, 0 ≤ b i ∧ b i ≤ 127) (hE : IsE b n beg pla) (hw : ∀ j, 0 ≤ j → j < 1 → ¬ IsW b beg pla j) : Z (l, M_D_readKind, R_D_readKind, (0, 0), false, zAi (kd2 b n beg) (fun m => m = eRd b n rt (wE b n beg) pcs fau unf cau)) 0 0 (eRd b n rt pla pcs fau unf cau) 49 [(0, .ref 0), (1, .int (iI beg)), (2, .int (iI 1))] [] := by
  have epl : beg + (pla - beg) = pla := by omega
  refine Z_iload_n 26 rfl rfl rfl ?_
  refine Z_bipush 27 rfl rfl ?_
  refine Z_icmp_ge 28 rfl (tgt := 81) rfl (by omega) (by omega) (fun c52 => ?_) (fun c52 => ?_)
  · exfalso; omega
  refine Z_aload_n 29 rfl rfl rfl ?_
  refine Z_iload_n 30 rfl rfl rfl ?_
  refine Z_aload_n 31 rfl rfl rfl ?_
  refine Z_get 32 rfl f_D_26 rfl rfl ?_
  refine Z_iload_n 33 rfl rfl rfl ?_
  refine Z_isub 34 rfl ?_
  refine Z_iload_n 35 rfl rfl rfl ?_
  refine Z_callSrp (M' := M_D_wordOf) 36 isD rfl l_D_81 C_D_wordOf (c_D_wordOf1 l b n rt pcs fau unf cau pla) (emD ..) rfl rfl rfl (Nat.le_of_ble_eq_true rfl) ⟨rfl, rfl, Nat.le_of_ble_eq_true rfl, Nat.le_of_ble_eq_true rfl⟩ ⟨Nat.zero_le _, Nat.zero_le _⟩ ?_
  refine Z_callVbp (M' := M_D_isWord) 37 isD rfl l_D_85 C_D_isWord (c_D_isWord1 l b n rt pcs fau unf cau pla beg (pla - beg) hn (by omega) (by omega) hbt) (emD ..) (Or.inl ⟨_, _, _, _, rfl, rfl⟩) rfl rfl rfl (Nat.le_of_ble_eq_true rfl) ⟨rfl, rfl, Nat.le_of_ble_eq_true rfl, Nat.le_of_ble_eq_true rfl⟩ ⟨Nat.zero_le _, Nat.zero_le _⟩ ?_
  rw [epl]
  refine Z_ifb_eq 38 rfl (tgt := 75) rfl (fun c70 => ?_) (fun c70 => ?_)
  · refine Z_iinc 41 rfl rfl (Nat.le_of_ble_eq_true rfl) (lv' := [(2, .int _), (0, .ref _), (1, .int _)]) rfl ?_
    refine Z_goto 42 rfl (tgt := 49) rfl ?_
    refine Z_pick [0, 1, 2] (lv' := [(0, .ref _), (1, .int _), (2, .int _)]) rfl ?_
    exact lp2_D_readKind l b n rt pcs fau unf cau pla beg hn hb hbt hE (fun j j1 j2 => by
      by_cases ej : j = 1
      · rw [ej]; exact c70
      · exact hw j j1 (by omega))
  · refine Z_iload_n 39 rfl rfl rfl ?_
    refine Z_iret 40 rfl rfl ⟨Nat.le_refl _, Nat.le_refl _⟩ ?_
    exact ⟨by rw [kd2_y hE ⟨by omega, by omega, c70⟩ hw], by rw [wE_eq hE]⟩
theorem lp0_D_readKind (pla beg : Int) (hn : 0 ≤ n ∧ n ≤ 120) (hb : 0 ≤ beg ∧ beg ≤ pla ∧ pla ≤ n) (hbt : ∀ i, 0 ≤ b i ∧ b i ≤ 127) (hE : IsE b n beg pla) (hw : ∀ j, 0 ≤ j → j < 0 → ¬ IsW b beg pla j) : Z (l, M_D_readKind, R_D_readKind, (0, 0), false, zAi (kd2 b n beg) (fun m => m = eRd b n rt (wE b n beg) pcs fau unf cau)) 0 0 (eRd b n rt pla pcs fau unf cau) 49 [(0, .ref 0), (1, .int (iI beg)), (2, .int (iI 0))] [] := by
  have epl : beg + (pla - beg) = pla := by omega
  refine Z_iload_n 26 rfl rfl rfl ?_
  refine Z_bipush 27 rfl rfl ?_
  refine Z_icmp_ge 28 rfl (tgt := 81) rfl (by omega) (by omega) (fun c52 => ?_) (fun c52 => ?_)
  · exfalso; omega
  refine Z_aload_n 29 rfl rfl rfl ?_
  refine Z_iload_n 30 rfl rfl rfl ?_
  refine Z_aload_n 31 rfl rfl rfl ?_
  refine Z_get 32 rfl f_D_26 rfl rfl ?_
  refine Z_iload_n 33 rfl rfl rfl ?_
  refine Z_isub 34 rfl ?_
  refine Z_iload_n 35 rfl rfl rfl ?_
  refine Z_callSrp (M' := M_D_wordOf) 36 isD rfl l_D_81 C_D_wordOf (c_D_wordOf0 l b n rt pcs fau unf cau pla) (emD ..) rfl rfl rfl (Nat.le_of_ble_eq_true rfl) ⟨rfl, rfl, Nat.le_of_ble_eq_true rfl, Nat.le_of_ble_eq_true rfl⟩ ⟨Nat.zero_le _, Nat.zero_le _⟩ ?_
  refine Z_callVbp (M' := M_D_isWord) 37 isD rfl l_D_85 C_D_isWord (c_D_isWord0 l b n rt pcs fau unf cau pla beg (pla - beg) hn (by omega) (by omega) hbt) (emD ..) (Or.inl ⟨_, _, _, _, rfl, rfl⟩) rfl rfl rfl (Nat.le_of_ble_eq_true rfl) ⟨rfl, rfl, Nat.le_of_ble_eq_true rfl, Nat.le_of_ble_eq_true rfl⟩ ⟨Nat.zero_le _, Nat.zero_le _⟩ ?_
  rw [epl]
  refine Z_ifb_eq 38 rfl (tgt := 75) rfl (fun c70 => ?_) (fun c70 => ?_)
  · refine Z_iinc 41 rfl rfl (Nat.le_of_ble_eq_true rfl) (lv' := [(2, .int _), (0, .ref _), (1, .int _)]) rfl ?_
    refine Z_goto 42 rfl (tgt := 49) rfl ?_
    refine Z_pick [0, 1, 2] (lv' := [(0, .ref _), (1, .int _), (2, .int _)]) rfl ?_
    exact lp1_D_readKind l b n rt pcs fau unf cau pla beg hn hb hbt hE (fun j j1 j2 => by
      by_cases ej : j = 0
      · rw [ej]; exact c70
      · exact hw j j1 (by omega))
  · refine Z_iload_n 39 rfl rfl rfl ?_
    refine Z_iret 40 rfl rfl ⟨Nat.le_refl _, Nat.le_refl _⟩ ?_
    exact ⟨by rw [kd2_y hE ⟨by omega, by omega, c70⟩ hw], by rw [wE_eq hE]⟩
theorem lpa_D_readKind (beg : Int) (hn : 0 ≤ n ∧ n ≤ 120) (hbt : ∀ i, 0 ≤ b i ∧ b i ≤ 127) : ∀ (d : Nat) (pla i : Int), 0 ≤ beg → beg ≤ pla → pla ≤ n → i = pla - beg → n + 1 - pla < d → (∀ k, beg ≤ k → k < pla → isL (bt b n k)) → Z (l, M_D_readKind, R_D_readKind, (0, 0), false, zAi (kd2 b n beg) (fun m => m = eRd b n rt (wE b n beg) pcs fau unf cau)) 0 0 (eRd b n rt pla pcs fau unf cau) 7 [(0, .ref 0), (1, .int (iI beg)), (2, .int (iI i))] [] := by
  intro d
  induction d with
  | zero => intro pla i h1 h2 h3 h4 h5; omega
  | succ d ih =>
    intro pla i h1 h2 h3 h4 h5 h6
    have hbv : -1 ≤ bt b n pla ∧ bt b n pla ≤ 127 := by
      have := hbt pla
      unfold bt
      split <;> omega
    have hbn : n ≤ pla → bt b n pla = -1 := fun z => by unfold bt; rw [if_neg (by omega)]
    refine Z_iload_n 5 rfl rfl rfl ?_
    refine Z_bipush 6 rfl rfl ?_
    refine Z_icmp_ge 7 rfl (tgt := 47) rfl (by omega) (by omega) (fun c10 => ?_) (fun c10 => ?_)
    · refine Z_iconst 24 rfl ?_
      refine Z_istore_n 25 rfl rfl (Nat.le_of_ble_eq_true rfl) (lv' := [(2, .int _), (0, .ref _), (1, .int _)]) rfl ?_
      refine Z_pick [0, 1, 2] (lv' := [(0, .ref _), (1, .int _), (2, .int _)]) rfl ?_
      exact lp0_D_readKind l b n rt pcs fau unf cau pla beg hn (by omega) hbt ⟨h2, h6, by omega⟩ (fun j j1 j2 => by omega)
    · refine Z_aload_n 8 rfl rfl rfl ?_
      refine Z_callVip (M' := M_D_byteHere) 9 isD rfl l_D_52 C_D_byteHere (c_D_byteHere l b n rt pcs fau unf cau pla hn (by omega)) (emD ..) (Or.inl ⟨_, _, _, _, rfl, rfl⟩) rfl rfl rfl (Nat.le_of_ble_eq_true rfl) ⟨rfl, rfl, Nat.le_of_ble_eq_true rfl, Nat.le_of_ble_eq_true rfl⟩ ⟨Nat.zero_le _, Nat.zero_le _⟩ ?_
      refine Z_bipush 10 rfl rfl ?_
      refine Z_icmp_lt 11 rfl (tgt := 47) rfl (by omega) (by omega) (fun c19 => ?_) (fun c19 => ?_)
      · refine Z_iconst 24 rfl ?_
        refine Z_istore_n 25 rfl rfl (Nat.le_of_ble_eq_true rfl) (lv' := [(2, .int _), (0, .ref _), (1, .int _)]) rfl ?_
        refine Z_pick [0, 1, 2] (lv' := [(0, .ref _), (1, .int _), (2, .int _)]) rfl ?_
        exact lp0_D_readKind l b n rt pcs fau unf cau pla beg hn (by omega) hbt ⟨h2, h6, by omega⟩ (fun j j1 j2 => by omega)
      · refine Z_aload_n 12 rfl rfl rfl ?_
        refine Z_callVip (M' := M_D_byteHere) 13 isD rfl l_D_52 C_D_byteHere (c_D_byteHere l b n rt pcs fau unf cau pla hn (by omega)) (emD ..) (Or.inl ⟨_, _, _, _, rfl, rfl⟩) rfl rfl rfl (Nat.le_of_ble_eq_true rfl) ⟨rfl, rfl, Nat.le_of_ble_eq_true rfl, Nat.le_of_ble_eq_true rfl⟩ ⟨Nat.zero_le _, Nat.zero_le _⟩ ?_
        refine Z_bipush 14 rfl rfl ?_
        refine Z_icmp_gt 15 rfl (tgt := 47) rfl (by omega) (by omega) (fun c28 => ?_) (fun c28 => ?_)
        · refine Z_iconst 24 rfl ?_
          refine Z_istore_n 25 rfl rfl (Nat.le_of_ble_eq_true rfl) (lv' := [(2, .int _), (0, .ref _), (1, .int _)]) rfl ?_
          refine Z_pick [0, 1, 2] (lv' := [(0, .ref _), (1, .int _), (2, .int _)]) rfl ?_
          exact lp0_D_readKind l b n rt pcs fau unf cau pla beg hn (by omega) hbt ⟨h2, h6, by omega⟩ (fun j j1 j2 => by omega)
        · refine Z_aload_n 16 rfl rfl rfl ?_
          refine Z_dup 17 rfl rfl ?_
          refine Z_get 18 rfl f_D_26 rfl rfl ?_
          refine Z_iconst 19 rfl ?_
          refine Z_iadd 20 rfl ?_
          refine Z_put 21 rfl f_D_26 rfl (Nat.le_of_ble_eq_true rfl) (fun _ => ⟨rfl, rfl⟩) (fs' := []) (mem' := eRd b n rt (pla + 1) pcs fau unf cau) rfl ?_
          refine Z_iinc 22 rfl rfl (Nat.le_of_ble_eq_true rfl) (lv' := [(2, .int _), (0, .ref _), (1, .int _)]) rfl ?_
          refine Z_goto 23 rfl (tgt := 7) rfl ?_
          refine Z_pick [0, 1, 2] (lv' := [(0, .ref _), (1, .int _), (2, .int _)]) rfl ?_
          exact ih (pla + 1) (i + 1) (by omega) (by omega) (by omega) (by omega) (by omega) (fun k k1 k2 => by
            by_cases ek : k = pla
            · rw [ek]; omega
            · exact h6 k k1 (by omega))
theorem c_D_readKind (pla : Int) (hn : 0 ≤ n ∧ n ≤ 120) (hp : 0 ≤ pla ∧ pla ≤ n) (hbt : ∀ i, 0 ≤ b i ∧ b i ≤ 127) : Con l M_D_readKind R_D_readKind 0 0 false [.ref 0] (eRd b n rt pla pcs fau unf cau) (zAi (kd2 b n pla) (fun m => m = eRd b n rt (wE b n pla) pcs fau unf cau)) := by
  refine Con.of_Z (by decide) D_D_readKind (Nat.le_of_ble_eq_true rfl) ?_
  refine Z_aload_n 0 rfl rfl rfl ?_
  refine Z_get 1 rfl f_D_26 rfl rfl ?_
  refine Z_istore_n 2 rfl rfl (Nat.le_of_ble_eq_true rfl) (lv' := [(1, .int _), (0, .ref _)]) rfl ?_
  refine Z_iconst 3 rfl ?_
  refine Z_istore_n 4 rfl rfl (Nat.le_of_ble_eq_true rfl) (lv' := [(2, .int _), (1, .int _), (0, .ref _)]) rfl ?_
  refine Z_pick [0, 1, 2] (lv' := [(0, .ref _), (1, .int _), (2, .int _)]) rfl ?_
  exact lpa_D_readKind l b n rt pcs fau unf cau pla hn hbt 122 pla 0 (by omega) (by omega) (by omega) (by omega) (by omega) (fun k k1 k2 => by omega)
theorem c_D_readBlank (pla : Int) (hn : 0 ≤ n ∧ n ≤ 120) (hp : 0 ≤ pla ∧ pla ≤ n) (hbt : ∀ i, 0 ≤ b i ∧ b i ≤ 127) : Con l M_D_readBlank R_D_readBlank 0 0 false [.ref 0] (eRd b n rt pla pcs fau unf cau) (zAb (bt b n pla = 32) (fun m => (bt b n pla = 32 ∧ m = eRd b n rt (pla + 1) pcs fau unf cau) ∨ (bt b n pla ≠ 32 ∧ m = eRd b n rt pla pcs pla unf (if pla = n then 5 else 4)))) := by
  have hbv : -1 ≤ bt b n pla ∧ bt b n pla ≤ 127 := by
    have := hbt pla
    unfold bt
    split <;> omega
  refine Con.of_Z (by decide) D_D_readBlank (Nat.le_of_ble_eq_true rfl) ?_
  refine Z_aload_n 0 rfl rfl rfl ?_
  refine Z_callVip (M' := M_D_byteHere) 1 isD rfl l_D_52 C_D_byteHere (c_D_byteHere l b n rt pcs fau unf cau pla hn hp) (emD ..) (Or.inl ⟨_, _, _, _, rfl, rfl⟩) rfl rfl rfl (Nat.le_of_ble_eq_true rfl) ⟨rfl, rfl, Nat.le_of_ble_eq_true rfl, Nat.le_of_ble_eq_true rfl⟩ ⟨Nat.zero_le _, Nat.zero_le _⟩ ?_
  refine Z_bipush 2 rfl rfl ?_
  refine Z_icmp_eq 3 rfl (tgt := 19) rfl (by omega) (by omega) (fun c6 => ?_) (fun c6 => ?_)
  · refine Z_aload_n 10 rfl rfl rfl ?_
    refine Z_dup 11 rfl rfl ?_
    refine Z_get 12 rfl f_D_26 rfl rfl ?_
    refine Z_iconst 13 rfl ?_
    refine Z_iadd 14 rfl ?_
    refine Z_put 15 rfl f_D_26 rfl (Nat.le_of_ble_eq_true rfl) (fun _ => ⟨rfl, rfl⟩) (fs' := []) (mem' := eRd b n rt (pla + 1) pcs fau unf cau) rfl ?_
    refine Z_iconst 16 rfl ?_
    refine Z_zret 17 rfl rfl rfl ⟨Nat.le_refl _, Nat.le_refl _⟩ ?_
    exact ⟨bT c6, Or.inl ⟨c6, rfl⟩⟩
  · refine Z_aload_n 4 rfl rfl rfl ?_
    refine Z_aload_n 5 rfl rfl rfl ?_
    refine Z_get 6 rfl f_D_26 rfl rfl ?_
    refine Z_iconst 7 rfl ?_
    refine Z_callVb (M' := M_D_fail) 8 isD rfl l_D_56 C_D_fail (c_D_fail l b n rt pcs fau unf cau pla pla 4 hn (by omega)) (emD ..) (Or.inl ⟨_, _, _, _, rfl, rfl⟩) rfl rfl rfl (Nat.le_of_ble_eq_true rfl) ⟨rfl, rfl, Nat.le_of_ble_eq_true rfl, Nat.le_of_ble_eq_true rfl⟩ ⟨Nat.zero_le _, Nat.zero_le _⟩ (fun out hq => ?_)
    obtain rfl := hq
    refine Z_mem (mgD ..) ?_
    refine Z_zret 9 rfl rfl (bI_nar _) ⟨Nat.le_refl _, Nat.le_refl _⟩ ?_
    exact ⟨by rw [bI_f (show ¬ False from id), bI_f c6], Or.inr ⟨c6, rfl⟩⟩
theorem lp_D_readFigures (ms : Nat) (hms : ms ≤ 3) (hn : 0 ≤ n ∧ n ≤ 120) (hbt : ∀ i, 0 ≤ b i ∧ b i ≤ 127) : ∀ (d : Nat) (pla v i : Int), d ≤ ms → i = (ms : Int) - d → 0 ≤ pla → pla ≤ n → Z (l, M_D_readFigures, R_D_readFigures, (0, 0), false, zAi (fg b n d pla v).1 (fun m => m = eRd b n rt (fg b n d pla v).2 pcs fau unf cau)) 0 0 (eRd b n rt pla pcs fau unf cau) 4 [(0, .ref 0), (1, .int (iI (ms : Int))), (2, .int (iI v)), (3, .int (iI i))] [] := by
  intro d
  induction d with
  | zero =>
    intro pla v i h0 h1 h2 h3
    refine Z_iload_n 4 rfl rfl rfl ?_
    refine Z_iload_n 5 rfl rfl rfl ?_
    refine Z_icmp_ge 6 rfl (tgt := 56) rfl (by omega) (by omega) (fun c6 => ?_) (fun c6 => ?_)
    rotate_left
    · exfalso; omega
    refine Z_iload_n 32 rfl rfl rfl ?_
    refine Z_iret 33 rfl rfl ⟨Nat.le_refl _, Nat.le_refl _⟩ ?_
    exact ⟨rfl, rfl⟩
  | succ d ih =>
    intro pla v i h0 h1 h2 h3
    have hbv : -1 ≤ bt b n pla ∧ bt b n pla ≤ 127 := by
      have := hbt pla
      unfold bt
      split <;> omega
    refine Z_iload_n 4 rfl rfl rfl ?_
    refine Z_iload_n 5 rfl rfl rfl ?_
    refine Z_icmp_ge 6 rfl (tgt := 56) rfl (by omega) (by omega) (fun c6 => ?_) (fun c6 => ?_)
    · exfalso; omega
    refine Z_aload_n 7 rfl rfl rfl ?_
    refine Z_callVip (M' := M_D_byteHere) 8 isD rfl l_D_52 C_D_byteHere (c_D_byteHere l b n rt pcs fau unf cau pla hn (by omega)) (emD ..) (Or.inl ⟨_, _, _, _, rfl, rfl⟩) rfl rfl rfl (Nat.le_of_ble_eq_true rfl) ⟨rfl, rfl, Nat.le_of_ble_eq_true rfl, Nat.le_of_ble_eq_true rfl⟩ ⟨Nat.zero_le _, Nat.zero_le _⟩ ?_
    refine Z_bipush 9 rfl rfl ?_
    refine Z_icmp_lt 10 rfl (tgt := 56) rfl (by omega) (by omega) (fun c15 => ?_) (fun c15 => ?_)
    · refine Z_iload_n 32 rfl rfl rfl ?_
      refine Z_iret 33 rfl rfl ⟨Nat.le_refl _, Nat.le_refl _⟩ ?_
      exact ⟨by rw [fg_f (show ¬ isF (bt b n pla) by omega)], by rw [fg_f (show ¬ isF (bt b n pla) by omega)]⟩
    · refine Z_aload_n 11 rfl rfl rfl ?_
      refine Z_callVip (M' := M_D_byteHere) 12 isD rfl l_D_52 C_D_byteHere (c_D_byteHere l b n rt pcs fau unf cau pla hn (by omega)) (emD ..) (Or.inl ⟨_, _, _, _, rfl, rfl⟩) rfl rfl rfl (Nat.le_of_ble_eq_true rfl) ⟨rfl, rfl, Nat.le_of_ble_eq_true rfl, Nat.le_of_ble_eq_true rfl⟩ ⟨Nat.zero_le _, Nat.zero_le _⟩ ?_
      refine Z_bipush 13 rfl rfl ?_
      refine Z_icmp_gt 14 rfl (tgt := 56) rfl (by omega) (by omega) (fun c24 => ?_) (fun c24 => ?_)
      · refine Z_iload_n 32 rfl rfl rfl ?_
        refine Z_iret 33 rfl rfl ⟨Nat.le_refl _, Nat.le_refl _⟩ ?_
        exact ⟨by rw [fg_f (show ¬ isF (bt b n pla) by omega)], by rw [fg_f (show ¬ isF (bt b n pla) by omega)]⟩
      · refine Z_iload_n 15 rfl rfl rfl ?_
        refine Z_bipush 16 rfl rfl ?_
        refine Z_imul 17 rfl ?_
        refine Z_aload_n 18 rfl rfl rfl ?_
        refine Z_callVip (M' := M_D_byteHere) 19 isD rfl l_D_52 C_D_byteHere (c_D_byteHere l b n rt pcs fau unf cau pla hn (by omega)) (emD ..) (Or.inl ⟨_, _, _, _, rfl, rfl⟩) rfl rfl rfl (Nat.le_of_ble_eq_true rfl) ⟨rfl, rfl, Nat.le_of_ble_eq_true rfl, Nat.le_of_ble_eq_true rfl⟩ ⟨Nat.zero_le _, Nat.zero_le _⟩ ?_
        refine Z_iadd 20 rfl ?_
        refine Z_bipush 21 rfl rfl ?_
        refine Z_isub 22 rfl ?_
        refine Z_istore_n 23 rfl rfl (Nat.le_of_ble_eq_true rfl) (lv' := [(2, .int _), (0, .ref _), (1, .int _), (3, .int _)]) rfl ?_
        refine Z_aload_n 24 rfl rfl rfl ?_
        refine Z_dup 25 rfl rfl ?_
        refine Z_get 26 rfl f_D_26 rfl rfl ?_
        refine Z_iconst 27 rfl ?_
        refine Z_iadd 28 rfl ?_
        refine Z_put 29 rfl f_D_26 rfl (Nat.le_of_ble_eq_true rfl) (fun _ => ⟨rfl, rfl⟩) (fs' := []) (mem' := eRd b n rt (pla + 1) pcs fau unf cau) rfl ?_
        refine Z_iinc 30 rfl rfl (Nat.le_of_ble_eq_true rfl) (lv' := [(3, .int _), (2, .int _), (0, .ref _), (1, .int _)]) rfl ?_
        refine Z_goto 31 rfl (tgt := 4) rfl ?_
        refine Z_pick [0, 1, 2, 3] (lv' := [(0, .ref _), (1, .int _), (2, .int _), (3, .int _)]) rfl ?_
        have hf : isF (bt b n pla) := by omega
        have hpn := bt_f hf
        have hz := ih (pla + 1) (v * 10 + bt b n pla - 48) (i + 1) (by omega) (by omega) (by omega) (by omega)
        rw [← fg_t hf] at hz
        exact hz
theorem c_D_readFigures (pla : Int) (ms : Nat) (hms : ms ≤ 3) (hn : 0 ≤ n ∧ n ≤ 120) (hp : 0 ≤ pla ∧ pla ≤ n) (hbt : ∀ i, 0 ≤ b i ∧ b i ≤ 127) : Con l M_D_readFigures R_D_readFigures 0 0 false [.ref 0, .int (iI (ms : Int))] (eRd b n rt pla pcs fau unf cau) (zAi (fg b n ms pla 0).1 (fun m => m = eRd b n rt (fg b n ms pla 0).2 pcs fau unf cau)) := by
  refine Con.of_Z (by decide) D_D_readFigures (Nat.le_of_ble_eq_true rfl) ?_
  refine Z_iconst 0 rfl ?_
  refine Z_istore_n 1 rfl rfl (Nat.le_of_ble_eq_true rfl) (lv' := [(2, .int _), (0, .ref _), (1, .int _)]) rfl ?_
  refine Z_iconst 2 rfl ?_
  refine Z_istore_n 3 rfl rfl (Nat.le_of_ble_eq_true rfl) (lv' := [(3, .int _), (2, .int _), (0, .ref _), (1, .int _)]) rfl ?_
  refine Z_pick [0, 1, 2, 3] (lv' := [(0, .ref _), (1, .int _), (2, .int _), (3, .int _)]) rfl ?_
  exact lp_D_readFigures l b n rt pcs fau unf cau ms hms hn hbt ms pla 0 0 (Nat.le_refl _) (by omega) hp.1 hp.2
theorem c_D_readRise (pla : Int) (hn : 0 ≤ n ∧ n ≤ 120) (hp : 0 ≤ pla ∧ pla ≤ n) (hbt : ∀ i, 0 ≤ b i ∧ b i ≤ 127) : Con l M_D_readRise R_D_readRise 0 0 false [.ref 0] (eRd b n rt pla pcs fau unf cau) (zAi (rsV b n pla) (fun m => m = eRd b n rt (rsP b n pla) pcs fau unf cau)) := by
  have hbv : -1 ≤ bt b n pla ∧ bt b n pla ≤ 127 := by
    have := hbt pla
    unfold bt
    split <;> omega
  have hpn : bt b n pla = 45 → pla < n := fun z => by
    unfold bt at z
    split at z
    · assumption
    · omega
  refine Con.of_Z (by decide) D_D_readRise (Nat.le_of_ble_eq_true rfl) ?_
  refine Z_aload_n 0 rfl rfl rfl ?_
  refine Z_callVip (M' := M_D_byteHere) 1 isD rfl l_D_52 C_D_byteHere (c_D_byteHere l b n rt pcs fau unf cau pla hn hp) (emD ..) (Or.inl ⟨_, _, _, _, rfl, rfl⟩) rfl rfl rfl (Nat.le_of_ble_eq_true rfl) ⟨rfl, rfl, Nat.le_of_ble_eq_true rfl, Nat.le_of_ble_eq_true rfl⟩ ⟨Nat.zero_le _, Nat.zero_le _⟩ ?_
  refine Z_bipush 2 rfl rfl ?_
  refine Z_icmp_ne 3 rfl (tgt := 13) rfl (by omega) (by omega) (fun c6 => ?_) (fun c6 => ?_)
  · refine Z_iconst 6 rfl ?_
    refine Z_istore_n 7 rfl rfl (Nat.le_of_ble_eq_true rfl) (lv' := [(1, .int _), (0, .ref _)]) rfl ?_
    refine Z_iload_n 8 rfl rfl rfl ?_
    refine Z_if_eq 9 rfl (tgt := 29) rfl (by omega) (fun c16 => ?_) (fun c16 => ?_)
    · refine Z_aload_n 16 rfl rfl rfl ?_
      refine Z_iconst 17 rfl ?_
      have hx : True := trivial
      refine Z_callVi (M' := M_D_readFigures) 18 isD rfl l_D_66 C_D_readFigures (c_D_readFigures l b n rt pcs fau unf cau _ 2 (by omega) hn (by omega) hbt) (emD ..) (Or.inl ⟨_, _, _, _, rfl, rfl⟩) rfl rfl rfl (Nat.le_of_ble_eq_true rfl) ⟨rfl, rfl, Nat.le_of_ble_eq_true rfl, Nat.le_of_ble_eq_true rfl⟩ ⟨Nat.zero_le _, Nat.zero_le _⟩ (fun out hq => ?_)
      obtain rfl := hq
      refine Z_mem (mgD ..) ?_
      refine Z_istore_n 19 rfl rfl (Nat.le_of_ble_eq_true rfl) (lv' := [(2, .int _), (1, .int _), (0, .ref _)]) rfl ?_
      refine Z_iload_n 20 rfl rfl rfl ?_
      refine Z_if_eq 21 rfl (tgt := 44) rfl (by omega) (fun c36 => ?_) (fun c36 => ?_)
      · refine Z_iload_n 25 rfl rfl rfl ?_
        refine Z_iret 26 rfl rfl ⟨Nat.le_refl _, Nat.le_refl _⟩ ?_
        first | (exfalso; omega) | exact ⟨by unfold rsV; rw [if_pos c6], by unfold rsP; rw [if_pos c6]⟩ | exact ⟨by unfold rsV; rw [if_neg c6], by unfold rsP; rw [if_neg c6]⟩
      · refine Z_iload_n 22 rfl rfl rfl ?_
        refine Z_ineg 23 rfl ?_
        refine Z_goto 24 rfl (tgt := 45) rfl ?_
        refine Z_iret 26 rfl rfl ⟨Nat.le_refl _, Nat.le_refl _⟩ ?_
        first | (exfalso; omega) | exact ⟨by unfold rsV; rw [if_pos c6], by unfold rsP; rw [if_pos c6]⟩ | exact ⟨by unfold rsV; rw [if_neg c6], by unfold rsP; rw [if_neg c6]⟩
    · refine Z_aload_n 10 rfl rfl rfl ?_
      refine Z_dup 11 rfl rfl ?_
      refine Z_get 12 rfl f_D_26 rfl rfl ?_
      refine Z_iconst 13 rfl ?_
      refine Z_iadd 14 rfl ?_
      refine Z_put 15 rfl f_D_26 rfl (Nat.le_of_ble_eq_true rfl) (fun _ => ⟨rfl, rfl⟩) (fs' := []) (mem' := eRd b n rt (pla + 1) pcs fau unf cau) rfl ?_
      refine Z_aload_n 16 rfl rfl rfl ?_
      refine Z_iconst 17 rfl ?_
      have hx : True := trivial
      refine Z_callVi (M' := M_D_readFigures) 18 isD rfl l_D_66 C_D_readFigures (c_D_readFigures l b n rt pcs fau unf cau _ 2 (by omega) hn (by omega) hbt) (emD ..) (Or.inl ⟨_, _, _, _, rfl, rfl⟩) rfl rfl rfl (Nat.le_of_ble_eq_true rfl) ⟨rfl, rfl, Nat.le_of_ble_eq_true rfl, Nat.le_of_ble_eq_true rfl⟩ ⟨Nat.zero_le _, Nat.zero_le _⟩ (fun out hq => ?_)
      obtain rfl := hq
      refine Z_mem (mgD ..) ?_
      refine Z_istore_n 19 rfl rfl (Nat.le_of_ble_eq_true rfl) (lv' := [(2, .int _), (1, .int _), (0, .ref _)]) rfl ?_
      refine Z_iload_n 20 rfl rfl rfl ?_
      refine Z_if_eq 21 rfl (tgt := 44) rfl (by omega) (fun c36 => ?_) (fun c36 => ?_)
      · refine Z_iload_n 25 rfl rfl rfl ?_
        refine Z_iret 26 rfl rfl ⟨Nat.le_refl _, Nat.le_refl _⟩ ?_
        first | (exfalso; omega) | exact ⟨by unfold rsV; rw [if_pos c6], by unfold rsP; rw [if_pos c6]⟩ | exact ⟨by unfold rsV; rw [if_neg c6], by unfold rsP; rw [if_neg c6]⟩
      · refine Z_iload_n 22 rfl rfl rfl ?_
        refine Z_ineg 23 rfl ?_
        refine Z_goto 24 rfl (tgt := 45) rfl ?_
        refine Z_iret 26 rfl rfl ⟨Nat.le_refl _, Nat.le_refl _⟩ ?_
        first | (exfalso; omega) | exact ⟨by unfold rsV; rw [if_pos c6], by unfold rsP; rw [if_pos c6]⟩ | exact ⟨by unfold rsV; rw [if_neg c6], by unfold rsP; rw [if_neg c6]⟩
  · refine Z_iconst 4 rfl ?_
    refine Z_goto 5 rfl (tgt := 14) rfl ?_
    refine Z_istore_n 7 rfl rfl (Nat.le_of_ble_eq_true rfl) (lv' := [(1, .int _), (0, .ref _)]) rfl ?_
    refine Z_iload_n 8 rfl rfl rfl ?_
    refine Z_if_eq 9 rfl (tgt := 29) rfl (by omega) (fun c16 => ?_) (fun c16 => ?_)
    · refine Z_aload_n 16 rfl rfl rfl ?_
      refine Z_iconst 17 rfl ?_
      have hx : True := trivial
      refine Z_callVi (M' := M_D_readFigures) 18 isD rfl l_D_66 C_D_readFigures (c_D_readFigures l b n rt pcs fau unf cau _ 2 (by omega) hn (by omega) hbt) (emD ..) (Or.inl ⟨_, _, _, _, rfl, rfl⟩) rfl rfl rfl (Nat.le_of_ble_eq_true rfl) ⟨rfl, rfl, Nat.le_of_ble_eq_true rfl, Nat.le_of_ble_eq_true rfl⟩ ⟨Nat.zero_le _, Nat.zero_le _⟩ (fun out hq => ?_)
      obtain rfl := hq
      refine Z_mem (mgD ..) ?_
      refine Z_istore_n 19 rfl rfl (Nat.le_of_ble_eq_true rfl) (lv' := [(2, .int _), (1, .int _), (0, .ref _)]) rfl ?_
      refine Z_iload_n 20 rfl rfl rfl ?_
      refine Z_if_eq 21 rfl (tgt := 44) rfl (by omega) (fun c36 => ?_) (fun c36 => ?_)
      · refine Z_iload_n 25 rfl rfl rfl ?_
        refine Z_iret 26 rfl rfl ⟨Nat.le_refl _, Nat.le_refl _⟩ ?_
        first | (exfalso; omega) | exact ⟨by unfold rsV; rw [if_pos c6], by unfold rsP; rw [if_pos c6]⟩ | exact ⟨by unfold rsV; rw [if_neg c6], by unfold rsP; rw [if_neg c6]⟩
      · refine Z_iload_n 22 rfl rfl rfl ?_
        refine Z_ineg 23 rfl ?_
        refine Z_goto 24 rfl (tgt := 45) rfl ?_
        refine Z_iret 26 rfl rfl ⟨Nat.le_refl _, Nat.le_refl _⟩ ?_
        first | (exfalso; omega) | exact ⟨by unfold rsV; rw [if_pos c6], by unfold rsP; rw [if_pos c6]⟩ | exact ⟨by unfold rsV; rw [if_neg c6], by unfold rsP; rw [if_neg c6]⟩
    · refine Z_aload_n 10 rfl rfl rfl ?_
      refine Z_dup 11 rfl rfl ?_
      refine Z_get 12 rfl f_D_26 rfl rfl ?_
      refine Z_iconst 13 rfl ?_
      refine Z_iadd 14 rfl ?_
      refine Z_put 15 rfl f_D_26 rfl (Nat.le_of_ble_eq_true rfl) (fun _ => ⟨rfl, rfl⟩) (fs' := []) (mem' := eRd b n rt (pla + 1) pcs fau unf cau) rfl ?_
      refine Z_aload_n 16 rfl rfl rfl ?_
      refine Z_iconst 17 rfl ?_
      have hx : True := trivial
      refine Z_callVi (M' := M_D_readFigures) 18 isD rfl l_D_66 C_D_readFigures (c_D_readFigures l b n rt pcs fau unf cau _ 2 (by omega) hn (by omega) hbt) (emD ..) (Or.inl ⟨_, _, _, _, rfl, rfl⟩) rfl rfl rfl (Nat.le_of_ble_eq_true rfl) ⟨rfl, rfl, Nat.le_of_ble_eq_true rfl, Nat.le_of_ble_eq_true rfl⟩ ⟨Nat.zero_le _, Nat.zero_le _⟩ (fun out hq => ?_)
      obtain rfl := hq
      refine Z_mem (mgD ..) ?_
      refine Z_istore_n 19 rfl rfl (Nat.le_of_ble_eq_true rfl) (lv' := [(2, .int _), (1, .int _), (0, .ref _)]) rfl ?_
      refine Z_iload_n 20 rfl rfl rfl ?_
      refine Z_if_eq 21 rfl (tgt := 44) rfl (by omega) (fun c36 => ?_) (fun c36 => ?_)
      · refine Z_iload_n 25 rfl rfl rfl ?_
        refine Z_iret 26 rfl rfl ⟨Nat.le_refl _, Nat.le_refl _⟩ ?_
        first | (exfalso; omega) | exact ⟨by unfold rsV; rw [if_pos c6], by unfold rsP; rw [if_pos c6]⟩ | exact ⟨by unfold rsV; rw [if_neg c6], by unfold rsP; rw [if_neg c6]⟩
      · refine Z_iload_n 22 rfl rfl rfl ?_
        refine Z_ineg 23 rfl ?_
        refine Z_goto 24 rfl (tgt := 45) rfl ?_
        refine Z_iret 26 rfl rfl ⟨Nat.le_refl _, Nat.le_refl _⟩ ?_
        first | (exfalso; omega) | exact ⟨by unfold rsV; rw [if_pos c6], by unfold rsP; rw [if_pos c6]⟩ | exact ⟨by unfold rsV; rw [if_neg c6], by unfold rsP; rw [if_neg c6]⟩
/-- what was read so far is kept -/
def RI (cs rt : TT) (pcs unf cau : Int) : Prop := TV rt ∧ pcs = cs.2.2.2 ∧ 0 ≤ cs.2.2.2 ∧ ((unf = -1 ∧ ufN cs ∧ Ag rt cs) ∨ (ufO cs unf ∧ cau = if unf = 12 then 6 else 7))
theorem sI_ap (cs : TT) (a c d : Int) (h0 : 0 ≤ cs.2.2.2) {j : Int} (hj : j < cs.2.2.2) : sI (tAp cs a c d).2.1 (j + 1) = sI cs.2.1 (j + 1) := sI_c (fun i i1 i2 => by show uI cs.2.1 cs.2.2.2 c i = _; rw [uI_n _ _ (by omega)])
theorem sI_ap2 (cs : TT) (a c d : Int) (h0 : 0 ≤ cs.2.2.2) : sI (tAp cs a c d).2.1 (cs.2.2.2 + 1) = sI cs.2.1 cs.2.2.2 + c := by
  rw [sI_s _ h0]
  have e1 : (tAp cs a c d).2.1 cs.2.2.2 = c := by show uI cs.2.1 cs.2.2.2 c cs.2.2.2 = c; rw [uI_s]
  rw [e1, sI_c (g := cs.2.1) (fun i i1 i2 => by show uI cs.2.1 cs.2.2.2 c i = _; rw [uI_n _ _ (by omega)])]
theorem ufO_ap {cs : TT} {u : Int} (a c d : Int) (h0 : 0 ≤ cs.2.2.2) (h : ufO cs u) : ufO (tAp cs a c d) u := by
  obtain ⟨h1, h2, h3, h4⟩ := h
  have e : (tAp cs a c d).2.2.2 = cs.2.2.2 + 1 := rfl
  refine ⟨h1, by omega, ?_, fun j j1 j2 => ?_⟩
  · rw [sI_ap cs a c d h0 h2]
    exact h3
  · rw [sI_ap cs a c d h0 (by omega)]
    exact h4 j j1 j2
theorem Ag_tot {t u : TT} (h : Ag t u) : tot t = sI u.2.1 u.2.2.2 := by
  unfold tot
  rw [← h.1]
  exact sI_c (fun i i1 i2 => (h.2 i i1 i2).2.1)
theorem TV_ap {t : TT} (h : TV t) {a c d : Int} (hm : mb a c d) (h12 : t.2.2.2 < 12) (ht : tot t + c ≤ 360) : TV (tAp t a c d) := by
  have h1 := h.1.1
  unfold mb at hm
  have e : (tAp t a c d).2.2.2 = t.2.2.2 + 1 := rfl
  refine ⟨⟨by omega, fun i => ?_, fun i => ?_, fun i => ?_⟩, ?_, fun k k1 k2 => ?_⟩
  · show 0 ≤ uI t.1 t.2.2.2 a i ∧ uI t.1 t.2.2.2 a i ≤ 5
    unfold uI
    split
    · omega
    · exact h.1.2.1 i
  · show 0 ≤ uI t.2.1 t.2.2.2 c i ∧ uI t.2.1 t.2.2.2 c i ≤ 360
    unfold uI
    split
    · omega
    · exact h.1.2.2.1 i
  · show -99 ≤ uI t.2.2.1 t.2.2.2 d i ∧ uI t.2.2.1 t.2.2.2 d i ≤ 99
    unfold uI
    split
    · omega
    · exact h.1.2.2.2 i
  · have := sI_ap2 t a c d h1.1
    show sI (tAp t a c d).2.1 (t.2.2.2 + 1) ≤ 360
    unfold tot at ht
    omega
  · show mb (uI t.1 t.2.2.2 a k) (uI t.2.1 t.2.2.2 c k) (uI t.2.2.1 t.2.2.2 d k)
    by_cases ek : k = t.2.2.2
    · rw [ek, uI_s, uI_s, uI_s]
      exact hm
    · rw [uI_n _ _ ek, uI_n _ _ ek, uI_n _ _ ek]
      exact h.2.2 k k1 (by omega)
theorem Ag_ap {t u : TT} (h : Ag t u) (a c d : Int) : Ag (tAp t a c d) (tAp u a c d) := by
  refine ⟨by show t.2.2.2 + 1 = u.2.2.2 + 1; rw [h.1], fun i i1 i2 => ?_⟩
  show uI t.1 t.2.2.2 a i = uI u.1 u.2.2.2 a i ∧ uI t.2.1 t.2.2.2 c i = uI u.2.1 u.2.2.2 c i ∧ uI t.2.2.1 t.2.2.2 d i = uI u.2.2.1 u.2.2.2 d i
  have h3 : i < t.2.2.2 + 1 := i2
  rw [← h.1]
  by_cases ek : i = t.2.2.2
  · rw [ek, uI_s, uI_s, uI_s, uI_s, uI_s, uI_s]
    exact ⟨rfl, rfl, rfl⟩
  · rw [uI_n _ _ ek, uI_n _ _ ek, uI_n _ _ ek, uI_n _ _ ek, uI_n _ _ ek, uI_n _ _ ek]
    exact h.2 i i1 (by omega)
theorem c_D_keep (pla : Int) (cs : TT) (a c d : Int) (hm : mb a c d) (hR : RI cs rt pcs unf cau) (hb : cs.2.2.2 ≤ 120) : Con l M_D_keep R_D_keep 0 0 false [.ref 0, .int (iI a), .int (iI c), .int (iI d)] (eRd b n rt pla pcs fau unf cau) (zAv (fun m => ∃ rt' unf' cau', m = eRd b n rt' pla (cs.2.2.2 + 1) fau unf' cau' ∧ RI (tAp cs a c d) rt' (cs.2.2.2 + 1) unf' cau')) := by
  obtain ⟨hT, rfl, h0, hR⟩ := hR
  have h1 := hT.1.1
  have hm2 := hm
  unfold mb at hm2
  have htb := tot_bd hT.1
  have es : (tAp cs a c d).2.2.2 = cs.2.2.2 + 1 := rfl
  have e2 := sI_ap2 cs a c d h0
  have hun : -1 ≤ unf ∧ unf ≤ 120 := by
    rcases hR with z | ⟨z, -⟩
    · omega
    · have := z.2.1
      have := z.1
      omega
  have hneg : unf < 0 → unf = -1 ∧ ufN cs ∧ Ag rt cs := fun z => hR.resolve_right (fun y => by have := y.1.1; omega)
  refine Con.of_Z (by decide) D_D_keep (Nat.le_of_ble_eq_true rfl) ?_
  refine Z_aload_n 0 rfl rfl rfl ?_
  refine Z_get 1 rfl f_D_35 rfl rfl ?_
  refine Z_if_ge 2 rfl (tgt := 34) rfl (by omega) (fun c4 => ?_) (fun c4 => ?_)
  · refine Z_aload_n 15 rfl rfl rfl ?_
    refine Z_get 16 rfl f_D_35 rfl rfl ?_
    refine Z_if_ge 17 rfl (tgt := 70) rfl (by omega) (fun c38 => ?_) (fun c38 => ?_)
    · refine Z_aload_n 32 rfl rfl rfl ?_
      refine Z_get 33 rfl f_D_35 rfl rfl ?_
      refine Z_if_ge 34 rfl (tgt := 87) rfl (by omega) (fun c74 => ?_) (fun c74 => ?_)
      · refine Z_aload_n 41 rfl rfl rfl ?_
        refine Z_dup 42 rfl rfl ?_
        refine Z_get 43 rfl f_D_29 rfl rfl ?_
        refine Z_iconst 44 rfl ?_
        refine Z_iadd 45 rfl ?_
        refine Z_put 46 rfl f_D_29 rfl (Nat.le_of_ble_eq_true rfl) (fun _ => ⟨rfl, rfl⟩) (fs' := []) (mem' := eRd b n _ pla (cs.2.2.2 + 1) fau _ _) rfl ?_
        refine Z_vret 47 rfl rfl ⟨Nat.le_refl _, Nat.le_refl _⟩ ?_
        first
          | (exfalso; omega)
          | exact ⟨rfl, _, _, _, rfl, hT, rfl, by omega, Or.inr ⟨ufO_ap a c d h0 (hR.resolve_left (fun z => by have := z.1; omega)).1, (hR.resolve_left (fun z => by have := z.1; omega)).2⟩⟩
          | (obtain ⟨g1, g2, g3⟩ := hneg (by omega)
             have g4 := Ag_tot g3
             have g5 := g3.1
             exact ⟨rfl, _, _, _, rfl, TV_ap hT hm (by omega) (by omega), rfl, by omega, Or.inl ⟨g1, fun j j1 j2 => by
               by_cases ej : j = cs.2.2.2
               · rw [ej]; omega
               · rw [sI_ap cs a c d h0 (by omega)]; exact g2 j j1 (by omega), Ag_ap g3 a c d⟩⟩)
          | (obtain ⟨g1, g2, g3⟩ := hneg (by omega)
             have g4 := Ag_tot g3
             have g5 := g3.1
             have g6 : 0 ≤ cs.2.2.2 → cs.2.2.2 ≠ 0 → cs.2.2.2 - 1 ≠ 12 := fun y1 y2 => (g2 (cs.2.2.2 - 1) (by omega) (by omega)).1
             exact ⟨rfl, _, _, _, rfl, hT, rfl, by omega, Or.inr ⟨⟨h0, by omega, by omega, fun j j1 j2 => by rw [sI_ap cs a c d h0 j2]; exact g2 j j1 j2⟩, by first | rw [if_pos (by omega)] | rw [if_neg (by omega)]⟩⟩)
      · refine Z_aload_n 35 rfl rfl rfl ?_
        refine Z_get 36 rfl f_D_22 rfl rfl ?_
        refine Z_iload_n 37 rfl rfl rfl ?_
        refine Z_iload_n 38 rfl rfl rfl ?_
        refine Z_iload_n 39 rfl rfl rfl ?_
        refine Z_callVv (M' := M_T_append) 40 [2, 3, 4, 5] rfl l_D_116 C_T_append (c_T_append l rt hT.1 a c d (by omega)) ⟨by decide, (zEL.c (Or.inl rfl) (zEL.c (Or.inl rfl) (zEL.c (Or.inl rfl) (zEL.c (Or.inl rfl) zEL.n))))⟩ (Or.inl ⟨_, _, _, _, rfl, rfl⟩) rfl rfl rfl (Nat.le_of_ble_eq_true rfl) ⟨rfl, rfl, Nat.le_of_ble_eq_true rfl, Nat.le_of_ble_eq_true rfl⟩ ⟨Nat.zero_le _, Nat.zero_le _⟩ (fun out hq => ?_)
        obtain rfl := hq
        refine Z_mem (show _ = eRd b n (tAp rt a c d) pla cs.2.2.2 fau _ _ from rfl) ?_
        refine Z_aload_n 41 rfl rfl rfl ?_
        refine Z_dup 42 rfl rfl ?_
        refine Z_get 43 rfl f_D_29 rfl rfl ?_
        refine Z_iconst 44 rfl ?_
        refine Z_iadd 45 rfl ?_
        refine Z_put 46 rfl f_D_29 rfl (Nat.le_of_ble_eq_true rfl) (fun _ => ⟨rfl, rfl⟩) (fs' := []) (mem' := eRd b n _ pla (cs.2.2.2 + 1) fau _ _) rfl ?_
        refine Z_vret 47 rfl rfl ⟨Nat.le_refl _, Nat.le_refl _⟩ ?_
        first
          | (exfalso; omega)
          | exact ⟨rfl, _, _, _, rfl, hT, rfl, by omega, Or.inr ⟨ufO_ap a c d h0 (hR.resolve_left (fun z => by have := z.1; omega)).1, (hR.resolve_left (fun z => by have := z.1; omega)).2⟩⟩
          | (obtain ⟨g1, g2, g3⟩ := hneg (by omega)
             have g4 := Ag_tot g3
             have g5 := g3.1
             exact ⟨rfl, _, _, _, rfl, TV_ap hT hm (by omega) (by omega), rfl, by omega, Or.inl ⟨g1, fun j j1 j2 => by
               by_cases ej : j = cs.2.2.2
               · rw [ej]; omega
               · rw [sI_ap cs a c d h0 (by omega)]; exact g2 j j1 (by omega), Ag_ap g3 a c d⟩⟩)
          | (obtain ⟨g1, g2, g3⟩ := hneg (by omega)
             have g4 := Ag_tot g3
             have g5 := g3.1
             have g6 : 0 ≤ cs.2.2.2 → cs.2.2.2 ≠ 0 → cs.2.2.2 - 1 ≠ 12 := fun y1 y2 => (g2 (cs.2.2.2 - 1) (by omega) (by omega)).1
             exact ⟨rfl, _, _, _, rfl, hT, rfl, by omega, Or.inr ⟨⟨h0, by omega, by omega, fun j j1 j2 => by rw [sI_ap cs a c d h0 j2]; exact g2 j j1 j2⟩, by first | rw [if_pos (by omega)] | rw [if_neg (by omega)]⟩⟩)
    · refine Z_aload_n 18 rfl rfl rfl ?_
      refine Z_get 19 rfl f_D_22 rfl rfl ?_
      refine Z_callVip (M' := M_T_total) 20 [2, 3, 4, 5] rfl l_D_113 C_T_total (c_T_total l rt hT.1) ⟨by decide, (zEL.c (Or.inl rfl) (zEL.c (Or.inl rfl) (zEL.c (Or.inl rfl) (zEL.c (Or.inl rfl) zEL.n))))⟩ (Or.inl ⟨_, _, _, _, rfl, rfl⟩) rfl rfl rfl (Nat.le_of_ble_eq_true rfl) ⟨rfl, rfl, Nat.le_of_ble_eq_true rfl, Nat.le_of_ble_eq_true rfl⟩ ⟨Nat.zero_le _, Nat.zero_le _⟩ ?_
      refine Z_iload_n 21 rfl rfl rfl ?_
      refine Z_iadd 22 rfl ?_
      refine Z_sipush 23 rfl rfl ?_
      refine Z_icmp_le 24 rfl (tgt := 70) rfl (by omega) (by omega) (fun c53 => ?_) (fun c53 => ?_)
      · refine Z_aload_n 32 rfl rfl rfl ?_
        refine Z_get 33 rfl f_D_35 rfl rfl ?_
        refine Z_if_ge 34 rfl (tgt := 87) rfl (by omega) (fun c74 => ?_) (fun c74 => ?_)
        · refine Z_aload_n 41 rfl rfl rfl ?_
          refine Z_dup 42 rfl rfl ?_
          refine Z_get 43 rfl f_D_29 rfl rfl ?_
          refine Z_iconst 44 rfl ?_
          refine Z_iadd 45 rfl ?_
          refine Z_put 46 rfl f_D_29 rfl (Nat.le_of_ble_eq_true rfl) (fun _ => ⟨rfl, rfl⟩) (fs' := []) (mem' := eRd b n _ pla (cs.2.2.2 + 1) fau _ _) rfl ?_
          refine Z_vret 47 rfl rfl ⟨Nat.le_refl _, Nat.le_refl _⟩ ?_
          first
            | (exfalso; omega)
            | exact ⟨rfl, _, _, _, rfl, hT, rfl, by omega, Or.inr ⟨ufO_ap a c d h0 (hR.resolve_left (fun z => by have := z.1; omega)).1, (hR.resolve_left (fun z => by have := z.1; omega)).2⟩⟩
            | (obtain ⟨g1, g2, g3⟩ := hneg (by omega)
               have g4 := Ag_tot g3
               have g5 := g3.1
               exact ⟨rfl, _, _, _, rfl, TV_ap hT hm (by omega) (by omega), rfl, by omega, Or.inl ⟨g1, fun j j1 j2 => by
                 by_cases ej : j = cs.2.2.2
                 · rw [ej]; omega
                 · rw [sI_ap cs a c d h0 (by omega)]; exact g2 j j1 (by omega), Ag_ap g3 a c d⟩⟩)
            | (obtain ⟨g1, g2, g3⟩ := hneg (by omega)
               have g4 := Ag_tot g3
               have g5 := g3.1
               have g6 : 0 ≤ cs.2.2.2 → cs.2.2.2 ≠ 0 → cs.2.2.2 - 1 ≠ 12 := fun y1 y2 => (g2 (cs.2.2.2 - 1) (by omega) (by omega)).1
               exact ⟨rfl, _, _, _, rfl, hT, rfl, by omega, Or.inr ⟨⟨h0, by omega, by omega, fun j j1 j2 => by rw [sI_ap cs a c d h0 j2]; exact g2 j j1 j2⟩, by first | rw [if_pos (by omega)] | rw [if_neg (by omega)]⟩⟩)
        · refine Z_aload_n 35 rfl rfl rfl ?_
          refine Z_get 36 rfl f_D_22 rfl rfl ?_
          refine Z_iload_n 37 rfl rfl rfl ?_
          refine Z_iload_n 38 rfl rfl rfl ?_
          refine Z_iload_n 39 rfl rfl rfl ?_
          refine Z_callVv (M' := M_T_append) 40 [2, 3, 4, 5] rfl l_D_116 C_T_append (c_T_append l rt hT.1 a c d (by omega)) ⟨by decide, (zEL.c (Or.inl rfl) (zEL.c (Or.inl rfl) (zEL.c (Or.inl rfl) (zEL.c (Or.inl rfl) zEL.n))))⟩ (Or.inl ⟨_, _, _, _, rfl, rfl⟩) rfl rfl rfl (Nat.le_of_ble_eq_true rfl) ⟨rfl, rfl, Nat.le_of_ble_eq_true rfl, Nat.le_of_ble_eq_true rfl⟩ ⟨Nat.zero_le _, Nat.zero_le _⟩ (fun out hq => ?_)
          obtain rfl := hq
          refine Z_mem (show _ = eRd b n (tAp rt a c d) pla cs.2.2.2 fau _ _ from rfl) ?_
          refine Z_aload_n 41 rfl rfl rfl ?_
          refine Z_dup 42 rfl rfl ?_
          refine Z_get 43 rfl f_D_29 rfl rfl ?_
          refine Z_iconst 44 rfl ?_
          refine Z_iadd 45 rfl ?_
          refine Z_put 46 rfl f_D_29 rfl (Nat.le_of_ble_eq_true rfl) (fun _ => ⟨rfl, rfl⟩) (fs' := []) (mem' := eRd b n _ pla (cs.2.2.2 + 1) fau _ _) rfl ?_
          refine Z_vret 47 rfl rfl ⟨Nat.le_refl _, Nat.le_refl _⟩ ?_
          first
            | (exfalso; omega)
            | exact ⟨rfl, _, _, _, rfl, hT, rfl, by omega, Or.inr ⟨ufO_ap a c d h0 (hR.resolve_left (fun z => by have := z.1; omega)).1, (hR.resolve_left (fun z => by have := z.1; omega)).2⟩⟩
            | (obtain ⟨g1, g2, g3⟩ := hneg (by omega)
               have g4 := Ag_tot g3
               have g5 := g3.1
               exact ⟨rfl, _, _, _, rfl, TV_ap hT hm (by omega) (by omega), rfl, by omega, Or.inl ⟨g1, fun j j1 j2 => by
                 by_cases ej : j = cs.2.2.2
                 · rw [ej]; omega
                 · rw [sI_ap cs a c d h0 (by omega)]; exact g2 j j1 (by omega), Ag_ap g3 a c d⟩⟩)
            | (obtain ⟨g1, g2, g3⟩ := hneg (by omega)
               have g4 := Ag_tot g3
               have g5 := g3.1
               have g6 : 0 ≤ cs.2.2.2 → cs.2.2.2 ≠ 0 → cs.2.2.2 - 1 ≠ 12 := fun y1 y2 => (g2 (cs.2.2.2 - 1) (by omega) (by omega)).1
               exact ⟨rfl, _, _, _, rfl, hT, rfl, by omega, Or.inr ⟨⟨h0, by omega, by omega, fun j j1 j2 => by rw [sI_ap cs a c d h0 j2]; exact g2 j j1 j2⟩, by first | rw [if_pos (by omega)] | rw [if_neg (by omega)]⟩⟩)
      · refine Z_aload_n 25 rfl rfl rfl ?_
        refine Z_aload_n 26 rfl rfl rfl ?_
        refine Z_get 27 rfl f_D_29 rfl rfl ?_
        refine Z_put 28 rfl f_D_35 rfl (Nat.le_of_ble_eq_true rfl) (fun _ => ⟨rfl, rfl⟩) (fs' := []) (mem' := eRd b n rt pla cs.2.2.2 fau cs.2.2.2 cau) rfl ?_
        refine Z_aload_n 29 rfl rfl rfl ?_
        refine Z_bipush 30 rfl rfl ?_
        refine Z_put 31 rfl f_D_38 rfl (Nat.le_of_ble_eq_true rfl) (fun _ => ⟨rfl, rfl⟩) (fs' := []) (mem' := eRd b n rt pla cs.2.2.2 fau cs.2.2.2 7) rfl ?_
        refine Z_aload_n 32 rfl rfl rfl ?_
        refine Z_get 33 rfl f_D_35 rfl rfl ?_
        refine Z_if_ge 34 rfl (tgt := 87) rfl (by omega) (fun c74 => ?_) (fun c74 => ?_)
        · refine Z_aload_n 41 rfl rfl rfl ?_
          refine Z_dup 42 rfl rfl ?_
          refine Z_get 43 rfl f_D_29 rfl rfl ?_
          refine Z_iconst 44 rfl ?_
          refine Z_iadd 45 rfl ?_
          refine Z_put 46 rfl f_D_29 rfl (Nat.le_of_ble_eq_true rfl) (fun _ => ⟨rfl, rfl⟩) (fs' := []) (mem' := eRd b n _ pla (cs.2.2.2 + 1) fau _ _) rfl ?_
          refine Z_vret 47 rfl rfl ⟨Nat.le_refl _, Nat.le_refl _⟩ ?_
          first
            | (exfalso; omega)
            | exact ⟨rfl, _, _, _, rfl, hT, rfl, by omega, Or.inr ⟨ufO_ap a c d h0 (hR.resolve_left (fun z => by have := z.1; omega)).1, (hR.resolve_left (fun z => by have := z.1; omega)).2⟩⟩
            | (obtain ⟨g1, g2, g3⟩ := hneg (by omega)
               have g4 := Ag_tot g3
               have g5 := g3.1
               exact ⟨rfl, _, _, _, rfl, TV_ap hT hm (by omega) (by omega), rfl, by omega, Or.inl ⟨g1, fun j j1 j2 => by
                 by_cases ej : j = cs.2.2.2
                 · rw [ej]; omega
                 · rw [sI_ap cs a c d h0 (by omega)]; exact g2 j j1 (by omega), Ag_ap g3 a c d⟩⟩)
            | (obtain ⟨g1, g2, g3⟩ := hneg (by omega)
               have g4 := Ag_tot g3
               have g5 := g3.1
               have g6 : 0 ≤ cs.2.2.2 → cs.2.2.2 ≠ 0 → cs.2.2.2 - 1 ≠ 12 := fun y1 y2 => (g2 (cs.2.2.2 - 1) (by omega) (by omega)).1
               exact ⟨rfl, _, _, _, rfl, hT, rfl, by omega, Or.inr ⟨⟨h0, by omega, by omega, fun j j1 j2 => by rw [sI_ap cs a c d h0 j2]; exact g2 j j1 j2⟩, by first | rw [if_pos (by omega)] | rw [if_neg (by omega)]⟩⟩)
        · refine Z_aload_n 35 rfl rfl rfl ?_
          refine Z_get 36 rfl f_D_22 rfl rfl ?_
          refine Z_iload_n 37 rfl rfl rfl ?_
          refine Z_iload_n 38 rfl rfl rfl ?_
          refine Z_iload_n 39 rfl rfl rfl ?_
          refine Z_callVv (M' := M_T_append) 40 [2, 3, 4, 5] rfl l_D_116 C_T_append (c_T_append l rt hT.1 a c d (by omega)) ⟨by decide, (zEL.c (Or.inl rfl) (zEL.c (Or.inl rfl) (zEL.c (Or.inl rfl) (zEL.c (Or.inl rfl) zEL.n))))⟩ (Or.inl ⟨_, _, _, _, rfl, rfl⟩) rfl rfl rfl (Nat.le_of_ble_eq_true rfl) ⟨rfl, rfl, Nat.le_of_ble_eq_true rfl, Nat.le_of_ble_eq_true rfl⟩ ⟨Nat.zero_le _, Nat.zero_le _⟩ (fun out hq => ?_)
          obtain rfl := hq
          refine Z_mem (show _ = eRd b n (tAp rt a c d) pla cs.2.2.2 fau _ _ from rfl) ?_
          refine Z_aload_n 41 rfl rfl rfl ?_
          refine Z_dup 42 rfl rfl ?_
          refine Z_get 43 rfl f_D_29 rfl rfl ?_
          refine Z_iconst 44 rfl ?_
          refine Z_iadd 45 rfl ?_
          refine Z_put 46 rfl f_D_29 rfl (Nat.le_of_ble_eq_true rfl) (fun _ => ⟨rfl, rfl⟩) (fs' := []) (mem' := eRd b n _ pla (cs.2.2.2 + 1) fau _ _) rfl ?_
          refine Z_vret 47 rfl rfl ⟨Nat.le_refl _, Nat.le_refl _⟩ ?_
          first
            | (exfalso; omega)
            | exact ⟨rfl, _, _, _, rfl, hT, rfl, by omega, Or.inr ⟨ufO_ap a c d h0 (hR.resolve_left (fun z => by have := z.1; omega)).1, (hR.resolve_left (fun z => by have := z.1; omega)).2⟩⟩
            | (obtain ⟨g1, g2, g3⟩ := hneg (by omega)
               have g4 := Ag_tot g3
               have g5 := g3.1
               exact ⟨rfl, _, _, _, rfl, TV_ap hT hm (by omega) (by omega), rfl, by omega, Or.inl ⟨g1, fun j j1 j2 => by
                 by_cases ej : j = cs.2.2.2
                 · rw [ej]; omega
                 · rw [sI_ap cs a c d h0 (by omega)]; exact g2 j j1 (by omega), Ag_ap g3 a c d⟩⟩)
            | (obtain ⟨g1, g2, g3⟩ := hneg (by omega)
               have g4 := Ag_tot g3
               have g5 := g3.1
               have g6 : 0 ≤ cs.2.2.2 → cs.2.2.2 ≠ 0 → cs.2.2.2 - 1 ≠ 12 := fun y1 y2 => (g2 (cs.2.2.2 - 1) (by omega) (by omega)).1
               exact ⟨rfl, _, _, _, rfl, hT, rfl, by omega, Or.inr ⟨⟨h0, by omega, by omega, fun j j1 j2 => by rw [sI_ap cs a c d h0 j2]; exact g2 j j1 j2⟩, by first | rw [if_pos (by omega)] | rw [if_neg (by omega)]⟩⟩)
  · refine Z_aload_n 3 rfl rfl rfl ?_
    refine Z_get 4 rfl f_D_22 rfl rfl ?_
    refine Z_callVbp (M' := M_T_isFull) 5 [2, 3, 4, 5] rfl l_D_110 C_T_isFull (c_T_isFull l rt hT.1) ⟨by decide, (zEL.c (Or.inl rfl) (zEL.c (Or.inl rfl) (zEL.c (Or.inl rfl) (zEL.c (Or.inl rfl) zEL.n))))⟩ (Or.inl ⟨_, _, _, _, rfl, rfl⟩) rfl rfl rfl (Nat.le_of_ble_eq_true rfl) ⟨rfl, rfl, Nat.le_of_ble_eq_true rfl, Nat.le_of_ble_eq_true rfl⟩ ⟨Nat.zero_le _, Nat.zero_le _⟩ ?_
    refine Z_ifb_eq 6 rfl (tgt := 34) rfl (fun c14 => ?_) (fun c14 => ?_)
    · refine Z_aload_n 15 rfl rfl rfl ?_
      refine Z_get 16 rfl f_D_35 rfl rfl ?_
      refine Z_if_ge 17 rfl (tgt := 70) rfl (by omega) (fun c38 => ?_) (fun c38 => ?_)
      · refine Z_aload_n 32 rfl rfl rfl ?_
        refine Z_get 33 rfl f_D_35 rfl rfl ?_
        refine Z_if_ge 34 rfl (tgt := 87) rfl (by omega) (fun c74 => ?_) (fun c74 => ?_)
        · refine Z_aload_n 41 rfl rfl rfl ?_
          refine Z_dup 42 rfl rfl ?_
          refine Z_get 43 rfl f_D_29 rfl rfl ?_
          refine Z_iconst 44 rfl ?_
          refine Z_iadd 45 rfl ?_
          refine Z_put 46 rfl f_D_29 rfl (Nat.le_of_ble_eq_true rfl) (fun _ => ⟨rfl, rfl⟩) (fs' := []) (mem' := eRd b n _ pla (cs.2.2.2 + 1) fau _ _) rfl ?_
          refine Z_vret 47 rfl rfl ⟨Nat.le_refl _, Nat.le_refl _⟩ ?_
          first
            | (exfalso; omega)
            | exact ⟨rfl, _, _, _, rfl, hT, rfl, by omega, Or.inr ⟨ufO_ap a c d h0 (hR.resolve_left (fun z => by have := z.1; omega)).1, (hR.resolve_left (fun z => by have := z.1; omega)).2⟩⟩
            | (obtain ⟨g1, g2, g3⟩ := hneg (by omega)
               have g4 := Ag_tot g3
               have g5 := g3.1
               exact ⟨rfl, _, _, _, rfl, TV_ap hT hm (by omega) (by omega), rfl, by omega, Or.inl ⟨g1, fun j j1 j2 => by
                 by_cases ej : j = cs.2.2.2
                 · rw [ej]; omega
                 · rw [sI_ap cs a c d h0 (by omega)]; exact g2 j j1 (by omega), Ag_ap g3 a c d⟩⟩)
            | (obtain ⟨g1, g2, g3⟩ := hneg (by omega)
               have g4 := Ag_tot g3
               have g5 := g3.1
               have g6 : 0 ≤ cs.2.2.2 → cs.2.2.2 ≠ 0 → cs.2.2.2 - 1 ≠ 12 := fun y1 y2 => (g2 (cs.2.2.2 - 1) (by omega) (by omega)).1
               exact ⟨rfl, _, _, _, rfl, hT, rfl, by omega, Or.inr ⟨⟨h0, by omega, by omega, fun j j1 j2 => by rw [sI_ap cs a c d h0 j2]; exact g2 j j1 j2⟩, by first | rw [if_pos (by omega)] | rw [if_neg (by omega)]⟩⟩)
        · refine Z_aload_n 35 rfl rfl rfl ?_
          refine Z_get 36 rfl f_D_22 rfl rfl ?_
          refine Z_iload_n 37 rfl rfl rfl ?_
          refine Z_iload_n 38 rfl rfl rfl ?_
          refine Z_iload_n 39 rfl rfl rfl ?_
          refine Z_callVv (M' := M_T_append) 40 [2, 3, 4, 5] rfl l_D_116 C_T_append (c_T_append l rt hT.1 a c d (by omega)) ⟨by decide, (zEL.c (Or.inl rfl) (zEL.c (Or.inl rfl) (zEL.c (Or.inl rfl) (zEL.c (Or.inl rfl) zEL.n))))⟩ (Or.inl ⟨_, _, _, _, rfl, rfl⟩) rfl rfl rfl (Nat.le_of_ble_eq_true rfl) ⟨rfl, rfl, Nat.le_of_ble_eq_true rfl, Nat.le_of_ble_eq_true rfl⟩ ⟨Nat.zero_le _, Nat.zero_le _⟩ (fun out hq => ?_)
          obtain rfl := hq
          refine Z_mem (show _ = eRd b n (tAp rt a c d) pla cs.2.2.2 fau _ _ from rfl) ?_
          refine Z_aload_n 41 rfl rfl rfl ?_
          refine Z_dup 42 rfl rfl ?_
          refine Z_get 43 rfl f_D_29 rfl rfl ?_
          refine Z_iconst 44 rfl ?_
          refine Z_iadd 45 rfl ?_
          refine Z_put 46 rfl f_D_29 rfl (Nat.le_of_ble_eq_true rfl) (fun _ => ⟨rfl, rfl⟩) (fs' := []) (mem' := eRd b n _ pla (cs.2.2.2 + 1) fau _ _) rfl ?_
          refine Z_vret 47 rfl rfl ⟨Nat.le_refl _, Nat.le_refl _⟩ ?_
          first
            | (exfalso; omega)
            | exact ⟨rfl, _, _, _, rfl, hT, rfl, by omega, Or.inr ⟨ufO_ap a c d h0 (hR.resolve_left (fun z => by have := z.1; omega)).1, (hR.resolve_left (fun z => by have := z.1; omega)).2⟩⟩
            | (obtain ⟨g1, g2, g3⟩ := hneg (by omega)
               have g4 := Ag_tot g3
               have g5 := g3.1
               exact ⟨rfl, _, _, _, rfl, TV_ap hT hm (by omega) (by omega), rfl, by omega, Or.inl ⟨g1, fun j j1 j2 => by
                 by_cases ej : j = cs.2.2.2
                 · rw [ej]; omega
                 · rw [sI_ap cs a c d h0 (by omega)]; exact g2 j j1 (by omega), Ag_ap g3 a c d⟩⟩)
            | (obtain ⟨g1, g2, g3⟩ := hneg (by omega)
               have g4 := Ag_tot g3
               have g5 := g3.1
               have g6 : 0 ≤ cs.2.2.2 → cs.2.2.2 ≠ 0 → cs.2.2.2 - 1 ≠ 12 := fun y1 y2 => (g2 (cs.2.2.2 - 1) (by omega) (by omega)).1
               exact ⟨rfl, _, _, _, rfl, hT, rfl, by omega, Or.inr ⟨⟨h0, by omega, by omega, fun j j1 j2 => by rw [sI_ap cs a c d h0 j2]; exact g2 j j1 j2⟩, by first | rw [if_pos (by omega)] | rw [if_neg (by omega)]⟩⟩)
      · refine Z_aload_n 18 rfl rfl rfl ?_
        refine Z_get 19 rfl f_D_22 rfl rfl ?_
        refine Z_callVip (M' := M_T_total) 20 [2, 3, 4, 5] rfl l_D_113 C_T_total (c_T_total l rt hT.1) ⟨by decide, (zEL.c (Or.inl rfl) (zEL.c (Or.inl rfl) (zEL.c (Or.inl rfl) (zEL.c (Or.inl rfl) zEL.n))))⟩ (Or.inl ⟨_, _, _, _, rfl, rfl⟩) rfl rfl rfl (Nat.le_of_ble_eq_true rfl) ⟨rfl, rfl, Nat.le_of_ble_eq_true rfl, Nat.le_of_ble_eq_true rfl⟩ ⟨Nat.zero_le _, Nat.zero_le _⟩ ?_
        refine Z_iload_n 21 rfl rfl rfl ?_
        refine Z_iadd 22 rfl ?_
        refine Z_sipush 23 rfl rfl ?_
        refine Z_icmp_le 24 rfl (tgt := 70) rfl (by omega) (by omega) (fun c53 => ?_) (fun c53 => ?_)
        · refine Z_aload_n 32 rfl rfl rfl ?_
          refine Z_get 33 rfl f_D_35 rfl rfl ?_
          refine Z_if_ge 34 rfl (tgt := 87) rfl (by omega) (fun c74 => ?_) (fun c74 => ?_)
          · refine Z_aload_n 41 rfl rfl rfl ?_
            refine Z_dup 42 rfl rfl ?_
            refine Z_get 43 rfl f_D_29 rfl rfl ?_
            refine Z_iconst 44 rfl ?_
            refine Z_iadd 45 rfl ?_
            refine Z_put 46 rfl f_D_29 rfl (Nat.le_of_ble_eq_true rfl) (fun _ => ⟨rfl, rfl⟩) (fs' := []) (mem' := eRd b n _ pla (cs.2.2.2 + 1) fau _ _) rfl ?_
            refine Z_vret 47 rfl rfl ⟨Nat.le_refl _, Nat.le_refl _⟩ ?_
            first
              | (exfalso; omega)
              | exact ⟨rfl, _, _, _, rfl, hT, rfl, by omega, Or.inr ⟨ufO_ap a c d h0 (hR.resolve_left (fun z => by have := z.1; omega)).1, (hR.resolve_left (fun z => by have := z.1; omega)).2⟩⟩
              | (obtain ⟨g1, g2, g3⟩ := hneg (by omega)
                 have g4 := Ag_tot g3
                 have g5 := g3.1
                 exact ⟨rfl, _, _, _, rfl, TV_ap hT hm (by omega) (by omega), rfl, by omega, Or.inl ⟨g1, fun j j1 j2 => by
                   by_cases ej : j = cs.2.2.2
                   · rw [ej]; omega
                   · rw [sI_ap cs a c d h0 (by omega)]; exact g2 j j1 (by omega), Ag_ap g3 a c d⟩⟩)
              | (obtain ⟨g1, g2, g3⟩ := hneg (by omega)
                 have g4 := Ag_tot g3
                 have g5 := g3.1
                 have g6 : 0 ≤ cs.2.2.2 → cs.2.2.2 ≠ 0 → cs.2.2.2 - 1 ≠ 12 := fun y1 y2 => (g2 (cs.2.2.2 - 1) (by omega) (by omega)).1
                 exact ⟨rfl, _, _, _, rfl, hT, rfl, by omega, Or.inr ⟨⟨h0, by omega, by omega, fun j j1 j2 => by rw [sI_ap cs a c d h0 j2]; exact g2 j j1 j2⟩, by first | rw [if_pos (by omega)] | rw [if_neg (by omega)]⟩⟩)
          · refine Z_aload_n 35 rfl rfl rfl ?_
            refine Z_get 36 rfl f_D_22 rfl rfl ?_
            refine Z_iload_n 37 rfl rfl rfl ?_
            refine Z_iload_n 38 rfl rfl rfl ?_
            refine Z_iload_n 39 rfl rfl rfl ?_
            refine Z_callVv (M' := M_T_append) 40 [2, 3, 4, 5] rfl l_D_116 C_T_append (c_T_append l rt hT.1 a c d (by omega)) ⟨by decide, (zEL.c (Or.inl rfl) (zEL.c (Or.inl rfl) (zEL.c (Or.inl rfl) (zEL.c (Or.inl rfl) zEL.n))))⟩ (Or.inl ⟨_, _, _, _, rfl, rfl⟩) rfl rfl rfl (Nat.le_of_ble_eq_true rfl) ⟨rfl, rfl, Nat.le_of_ble_eq_true rfl, Nat.le_of_ble_eq_true rfl⟩ ⟨Nat.zero_le _, Nat.zero_le _⟩ (fun out hq => ?_)
            obtain rfl := hq
            refine Z_mem (show _ = eRd b n (tAp rt a c d) pla cs.2.2.2 fau _ _ from rfl) ?_
            refine Z_aload_n 41 rfl rfl rfl ?_
            refine Z_dup 42 rfl rfl ?_
            refine Z_get 43 rfl f_D_29 rfl rfl ?_
            refine Z_iconst 44 rfl ?_
            refine Z_iadd 45 rfl ?_
            refine Z_put 46 rfl f_D_29 rfl (Nat.le_of_ble_eq_true rfl) (fun _ => ⟨rfl, rfl⟩) (fs' := []) (mem' := eRd b n _ pla (cs.2.2.2 + 1) fau _ _) rfl ?_
            refine Z_vret 47 rfl rfl ⟨Nat.le_refl _, Nat.le_refl _⟩ ?_
            first
              | (exfalso; omega)
              | exact ⟨rfl, _, _, _, rfl, hT, rfl, by omega, Or.inr ⟨ufO_ap a c d h0 (hR.resolve_left (fun z => by have := z.1; omega)).1, (hR.resolve_left (fun z => by have := z.1; omega)).2⟩⟩
              | (obtain ⟨g1, g2, g3⟩ := hneg (by omega)
                 have g4 := Ag_tot g3
                 have g5 := g3.1
                 exact ⟨rfl, _, _, _, rfl, TV_ap hT hm (by omega) (by omega), rfl, by omega, Or.inl ⟨g1, fun j j1 j2 => by
                   by_cases ej : j = cs.2.2.2
                   · rw [ej]; omega
                   · rw [sI_ap cs a c d h0 (by omega)]; exact g2 j j1 (by omega), Ag_ap g3 a c d⟩⟩)
              | (obtain ⟨g1, g2, g3⟩ := hneg (by omega)
                 have g4 := Ag_tot g3
                 have g5 := g3.1
                 have g6 : 0 ≤ cs.2.2.2 → cs.2.2.2 ≠ 0 → cs.2.2.2 - 1 ≠ 12 := fun y1 y2 => (g2 (cs.2.2.2 - 1) (by omega) (by omega)).1
                 exact ⟨rfl, _, _, _, rfl, hT, rfl, by omega, Or.inr ⟨⟨h0, by omega, by omega, fun j j1 j2 => by rw [sI_ap cs a c d h0 j2]; exact g2 j j1 j2⟩, by first | rw [if_pos (by omega)] | rw [if_neg (by omega)]⟩⟩)
        · refine Z_aload_n 25 rfl rfl rfl ?_
          refine Z_aload_n 26 rfl rfl rfl ?_
          refine Z_get 27 rfl f_D_29 rfl rfl ?_
          refine Z_put 28 rfl f_D_35 rfl (Nat.le_of_ble_eq_true rfl) (fun _ => ⟨rfl, rfl⟩) (fs' := []) (mem' := eRd b n rt pla cs.2.2.2 fau cs.2.2.2 cau) rfl ?_
          refine Z_aload_n 29 rfl rfl rfl ?_
          refine Z_bipush 30 rfl rfl ?_
          refine Z_put 31 rfl f_D_38 rfl (Nat.le_of_ble_eq_true rfl) (fun _ => ⟨rfl, rfl⟩) (fs' := []) (mem' := eRd b n rt pla cs.2.2.2 fau cs.2.2.2 7) rfl ?_
          refine Z_aload_n 32 rfl rfl rfl ?_
          refine Z_get 33 rfl f_D_35 rfl rfl ?_
          refine Z_if_ge 34 rfl (tgt := 87) rfl (by omega) (fun c74 => ?_) (fun c74 => ?_)
          · refine Z_aload_n 41 rfl rfl rfl ?_
            refine Z_dup 42 rfl rfl ?_
            refine Z_get 43 rfl f_D_29 rfl rfl ?_
            refine Z_iconst 44 rfl ?_
            refine Z_iadd 45 rfl ?_
            refine Z_put 46 rfl f_D_29 rfl (Nat.le_of_ble_eq_true rfl) (fun _ => ⟨rfl, rfl⟩) (fs' := []) (mem' := eRd b n _ pla (cs.2.2.2 + 1) fau _ _) rfl ?_
            refine Z_vret 47 rfl rfl ⟨Nat.le_refl _, Nat.le_refl _⟩ ?_
            first
              | (exfalso; omega)
              | exact ⟨rfl, _, _, _, rfl, hT, rfl, by omega, Or.inr ⟨ufO_ap a c d h0 (hR.resolve_left (fun z => by have := z.1; omega)).1, (hR.resolve_left (fun z => by have := z.1; omega)).2⟩⟩
              | (obtain ⟨g1, g2, g3⟩ := hneg (by omega)
                 have g4 := Ag_tot g3
                 have g5 := g3.1
                 exact ⟨rfl, _, _, _, rfl, TV_ap hT hm (by omega) (by omega), rfl, by omega, Or.inl ⟨g1, fun j j1 j2 => by
                   by_cases ej : j = cs.2.2.2
                   · rw [ej]; omega
                   · rw [sI_ap cs a c d h0 (by omega)]; exact g2 j j1 (by omega), Ag_ap g3 a c d⟩⟩)
              | (obtain ⟨g1, g2, g3⟩ := hneg (by omega)
                 have g4 := Ag_tot g3
                 have g5 := g3.1
                 have g6 : 0 ≤ cs.2.2.2 → cs.2.2.2 ≠ 0 → cs.2.2.2 - 1 ≠ 12 := fun y1 y2 => (g2 (cs.2.2.2 - 1) (by omega) (by omega)).1
                 exact ⟨rfl, _, _, _, rfl, hT, rfl, by omega, Or.inr ⟨⟨h0, by omega, by omega, fun j j1 j2 => by rw [sI_ap cs a c d h0 j2]; exact g2 j j1 j2⟩, by first | rw [if_pos (by omega)] | rw [if_neg (by omega)]⟩⟩)
          · refine Z_aload_n 35 rfl rfl rfl ?_
            refine Z_get 36 rfl f_D_22 rfl rfl ?_
            refine Z_iload_n 37 rfl rfl rfl ?_
            refine Z_iload_n 38 rfl rfl rfl ?_
            refine Z_iload_n 39 rfl rfl rfl ?_
            refine Z_callVv (M' := M_T_append) 40 [2, 3, 4, 5] rfl l_D_116 C_T_append (c_T_append l rt hT.1 a c d (by omega)) ⟨by decide, (zEL.c (Or.inl rfl) (zEL.c (Or.inl rfl) (zEL.c (Or.inl rfl) (zEL.c (Or.inl rfl) zEL.n))))⟩ (Or.inl ⟨_, _, _, _, rfl, rfl⟩) rfl rfl rfl (Nat.le_of_ble_eq_true rfl) ⟨rfl, rfl, Nat.le_of_ble_eq_true rfl, Nat.le_of_ble_eq_true rfl⟩ ⟨Nat.zero_le _, Nat.zero_le _⟩ (fun out hq => ?_)
            obtain rfl := hq
            refine Z_mem (show _ = eRd b n (tAp rt a c d) pla cs.2.2.2 fau _ _ from rfl) ?_
            refine Z_aload_n 41 rfl rfl rfl ?_
            refine Z_dup 42 rfl rfl ?_
            refine Z_get 43 rfl f_D_29 rfl rfl ?_
            refine Z_iconst 44 rfl ?_
            refine Z_iadd 45 rfl ?_
            refine Z_put 46 rfl f_D_29 rfl (Nat.le_of_ble_eq_true rfl) (fun _ => ⟨rfl, rfl⟩) (fs' := []) (mem' := eRd b n _ pla (cs.2.2.2 + 1) fau _ _) rfl ?_
            refine Z_vret 47 rfl rfl ⟨Nat.le_refl _, Nat.le_refl _⟩ ?_
            first
              | (exfalso; omega)
              | exact ⟨rfl, _, _, _, rfl, hT, rfl, by omega, Or.inr ⟨ufO_ap a c d h0 (hR.resolve_left (fun z => by have := z.1; omega)).1, (hR.resolve_left (fun z => by have := z.1; omega)).2⟩⟩
              | (obtain ⟨g1, g2, g3⟩ := hneg (by omega)
                 have g4 := Ag_tot g3
                 have g5 := g3.1
                 exact ⟨rfl, _, _, _, rfl, TV_ap hT hm (by omega) (by omega), rfl, by omega, Or.inl ⟨g1, fun j j1 j2 => by
                   by_cases ej : j = cs.2.2.2
                   · rw [ej]; omega
                   · rw [sI_ap cs a c d h0 (by omega)]; exact g2 j j1 (by omega), Ag_ap g3 a c d⟩⟩)
              | (obtain ⟨g1, g2, g3⟩ := hneg (by omega)
                 have g4 := Ag_tot g3
                 have g5 := g3.1
                 have g6 : 0 ≤ cs.2.2.2 → cs.2.2.2 ≠ 0 → cs.2.2.2 - 1 ≠ 12 := fun y1 y2 => (g2 (cs.2.2.2 - 1) (by omega) (by omega)).1
                 exact ⟨rfl, _, _, _, rfl, hT, rfl, by omega, Or.inr ⟨⟨h0, by omega, by omega, fun j j1 j2 => by rw [sI_ap cs a c d h0 j2]; exact g2 j j1 j2⟩, by first | rw [if_pos (by omega)] | rw [if_neg (by omega)]⟩⟩)
    · refine Z_aload_n 7 rfl rfl rfl ?_
      refine Z_aload_n 8 rfl rfl rfl ?_
      refine Z_get 9 rfl f_D_29 rfl rfl ?_
      refine Z_put 10 rfl f_D_35 rfl (Nat.le_of_ble_eq_true rfl) (fun _ => ⟨rfl, rfl⟩) (fs' := []) (mem' := eRd b n rt pla cs.2.2.2 fau cs.2.2.2 cau) rfl ?_
      refine Z_aload_n 11 rfl rfl rfl ?_
      refine Z_bipush 12 rfl rfl ?_
      refine Z_put 13 rfl f_D_38 rfl (Nat.le_of_ble_eq_true rfl) (fun _ => ⟨rfl, rfl⟩) (fs' := []) (mem' := eRd b n rt pla cs.2.2.2 fau cs.2.2.2 6) rfl ?_
      refine Z_goto 14 rfl (tgt := 70) rfl ?_
      refine Z_aload_n 32 rfl rfl rfl ?_
      refine Z_get 33 rfl f_D_35 rfl rfl ?_
      refine Z_if_ge 34 rfl (tgt := 87) rfl (by omega) (fun c74 => ?_) (fun c74 => ?_)
      · refine Z_aload_n 41 rfl rfl rfl ?_
        refine Z_dup 42 rfl rfl ?_
        refine Z_get 43 rfl f_D_29 rfl rfl ?_
        refine Z_iconst 44 rfl ?_
        refine Z_iadd 45 rfl ?_
        refine Z_put 46 rfl f_D_29 rfl (Nat.le_of_ble_eq_true rfl) (fun _ => ⟨rfl, rfl⟩) (fs' := []) (mem' := eRd b n _ pla (cs.2.2.2 + 1) fau _ _) rfl ?_
        refine Z_vret 47 rfl rfl ⟨Nat.le_refl _, Nat.le_refl _⟩ ?_
        first
          | (exfalso; omega)
          | exact ⟨rfl, _, _, _, rfl, hT, rfl, by omega, Or.inr ⟨ufO_ap a c d h0 (hR.resolve_left (fun z => by have := z.1; omega)).1, (hR.resolve_left (fun z => by have := z.1; omega)).2⟩⟩
          | (obtain ⟨g1, g2, g3⟩ := hneg (by omega)
             have g4 := Ag_tot g3
             have g5 := g3.1
             exact ⟨rfl, _, _, _, rfl, TV_ap hT hm (by omega) (by omega), rfl, by omega, Or.inl ⟨g1, fun j j1 j2 => by
               by_cases ej : j = cs.2.2.2
               · rw [ej]; omega
               · rw [sI_ap cs a c d h0 (by omega)]; exact g2 j j1 (by omega), Ag_ap g3 a c d⟩⟩)
          | (obtain ⟨g1, g2, g3⟩ := hneg (by omega)
             have g4 := Ag_tot g3
             have g5 := g3.1
             have g6 : 0 ≤ cs.2.2.2 → cs.2.2.2 ≠ 0 → cs.2.2.2 - 1 ≠ 12 := fun y1 y2 => (g2 (cs.2.2.2 - 1) (by omega) (by omega)).1
             exact ⟨rfl, _, _, _, rfl, hT, rfl, by omega, Or.inr ⟨⟨h0, by omega, by omega, fun j j1 j2 => by rw [sI_ap cs a c d h0 j2]; exact g2 j j1 j2⟩, by first | rw [if_pos (by omega)] | rw [if_neg (by omega)]⟩⟩)
      · refine Z_aload_n 35 rfl rfl rfl ?_
        refine Z_get 36 rfl f_D_22 rfl rfl ?_
        refine Z_iload_n 37 rfl rfl rfl ?_
        refine Z_iload_n 38 rfl rfl rfl ?_
        refine Z_iload_n 39 rfl rfl rfl ?_
        refine Z_callVv (M' := M_T_append) 40 [2, 3, 4, 5] rfl l_D_116 C_T_append (c_T_append l rt hT.1 a c d (by omega)) ⟨by decide, (zEL.c (Or.inl rfl) (zEL.c (Or.inl rfl) (zEL.c (Or.inl rfl) (zEL.c (Or.inl rfl) zEL.n))))⟩ (Or.inl ⟨_, _, _, _, rfl, rfl⟩) rfl rfl rfl (Nat.le_of_ble_eq_true rfl) ⟨rfl, rfl, Nat.le_of_ble_eq_true rfl, Nat.le_of_ble_eq_true rfl⟩ ⟨Nat.zero_le _, Nat.zero_le _⟩ (fun out hq => ?_)
        obtain rfl := hq
        refine Z_mem (show _ = eRd b n (tAp rt a c d) pla cs.2.2.2 fau _ _ from rfl) ?_
        refine Z_aload_n 41 rfl rfl rfl ?_
        refine Z_dup 42 rfl rfl ?_
        refine Z_get 43 rfl f_D_29 rfl rfl ?_
        refine Z_iconst 44 rfl ?_
        refine Z_iadd 45 rfl ?_
        refine Z_put 46 rfl f_D_29 rfl (Nat.le_of_ble_eq_true rfl) (fun _ => ⟨rfl, rfl⟩) (fs' := []) (mem' := eRd b n _ pla (cs.2.2.2 + 1) fau _ _) rfl ?_
        refine Z_vret 47 rfl rfl ⟨Nat.le_refl _, Nat.le_refl _⟩ ?_
        first
          | (exfalso; omega)
          | exact ⟨rfl, _, _, _, rfl, hT, rfl, by omega, Or.inr ⟨ufO_ap a c d h0 (hR.resolve_left (fun z => by have := z.1; omega)).1, (hR.resolve_left (fun z => by have := z.1; omega)).2⟩⟩
          | (obtain ⟨g1, g2, g3⟩ := hneg (by omega)
             have g4 := Ag_tot g3
             have g5 := g3.1
             exact ⟨rfl, _, _, _, rfl, TV_ap hT hm (by omega) (by omega), rfl, by omega, Or.inl ⟨g1, fun j j1 j2 => by
               by_cases ej : j = cs.2.2.2
               · rw [ej]; omega
               · rw [sI_ap cs a c d h0 (by omega)]; exact g2 j j1 (by omega), Ag_ap g3 a c d⟩⟩)
          | (obtain ⟨g1, g2, g3⟩ := hneg (by omega)
             have g4 := Ag_tot g3
             have g5 := g3.1
             have g6 : 0 ≤ cs.2.2.2 → cs.2.2.2 ≠ 0 → cs.2.2.2 - 1 ≠ 12 := fun y1 y2 => (g2 (cs.2.2.2 - 1) (by omega) (by omega)).1
             exact ⟨rfl, _, _, _, rfl, hT, rfl, by omega, Or.inr ⟨⟨h0, by omega, by omega, fun j j1 j2 => by rw [sI_ap cs a c d h0 j2]; exact g2 j j1 j2⟩, by first | rw [if_pos (by omega)] | rw [if_neg (by omega)]⟩⟩)
end D1
