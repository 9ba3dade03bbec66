/-! Spot: below, gain, slope, bend, base -/
abbrev SS : Type := Int × Int × Int × Int × Int
def eS (s : SS) : List zE := [zO 4 [.long (lI s.1), .long (lI s.2.1), .long (lI s.2.2.1), .long (lI s.2.2.2.1), .long (lI s.2.2.2.2)]]
def lf (s : SS) : Int := s.2.2.2.2 * s.1 + s.2.1
def sd (k L r a u : Int) : SS :=
  if k = 1 then (L, r * u, r, 0, a)
  else if k = 2 then (L * L, r * u * u, 2 * r * u, 2 * r, a)
  else if k = 3 then (L * L, r * u * (2 * L - u), 2 * r * (L - u), -2 * r, a)
  else if k = 4 then (L * L * L, r * u * u * (3 * L - 2 * u), 6 * r * u * (L - u), 6 * r * (L - 2 * u), a)
  else if k = 5 then (L * L * (L * L) * L, r * u * u * u * (10 * (L * L) - 15 * u * L + 6 * u * u), 30 * r * u * u * (L - u) * (L - u), 60 * r * u * (L - u) * (L - u - u), a)
  else (1, 0, 0, 0, a)
theorem c_S_write (l : Launch) (s : SS) (b g x y : Int) : Con l M_S_write R_S_write 0 0 false [.ref 0, .long (lI b), .long (lI g), .long (lI x), .long (lI y)] (eS s) (zAv (fun m => m = eS (b, g, x, y, s.2.2.2.2))) := by
  refine Con.of_Z (by decide) D_S_write (Nat.le_of_ble_eq_true rfl) ?_
  refine Z_aload_n 0 rfl rfl rfl ?_
  refine Z_lload_n 1 rfl rfl rfl ?_
  refine Z_put 2 rfl f_S_9 rfl (Nat.le_of_ble_eq_true rfl) (fun _ => ⟨rfl, rfl⟩) (fs' := []) (mem' := eS (b, s.2.1, s.2.2.1, s.2.2.2.1, s.2.2.2.2)) rfl ?_
  refine Z_aload_n 3 rfl rfl rfl ?_
  refine Z_lload_n 4 rfl rfl rfl ?_
  refine Z_put 5 rfl f_S_15 rfl (Nat.le_of_ble_eq_true rfl) (fun _ => ⟨rfl, rfl⟩) (fs' := []) (mem' := eS (b, g, s.2.2.1, s.2.2.2.1, s.2.2.2.2)) rfl ?_
  refine Z_aload_n 6 rfl rfl rfl ?_
  refine Z_lload 7 rfl rfl ?_
  refine Z_put 8 rfl f_S_18 rfl (Nat.le_of_ble_eq_true rfl) (fun _ => ⟨rfl, rfl⟩) (fs' := []) (mem' := eS (b, g, x, s.2.2.2.1, s.2.2.2.2)) rfl ?_
  refine Z_aload_n 9 rfl rfl rfl ?_
  refine Z_lload 10 rfl rfl ?_
  refine Z_put 11 rfl f_S_21 rfl (Nat.le_of_ble_eq_true rfl) (fun _ => ⟨rfl, rfl⟩) (fs' := []) (mem' := eS (b, g, x, y, s.2.2.2.2)) rfl ?_
  refine Z_vret 12 rfl rfl ⟨Nat.le_refl _, Nat.le_refl _⟩ ?_
  exact ⟨rfl, rfl⟩
theorem c_S_cubic (l : Launch) (s : SS) (L r u : Int) : Con l M_S_standInCubic R_S_standInCubic 0 0 false [.ref 0, .long (lI L), .long (lI r), .long (lI u)] (eS s) (zAv (fun m => m = eS (sd 4 L r s.2.2.2.2 u))) := by
  refine Con.of_Z (by decide) D_S_standInCubic (Nat.le_of_ble_eq_true rfl) ?_
  refine Z_aload_n 0 rfl rfl rfl ?_
  refine Z_lload_n 1 rfl rfl rfl ?_
  refine Z_lload_n 2 rfl rfl rfl ?_
  refine Z_lmul 3 rfl ?_
  refine Z_lload_n 4 rfl rfl rfl ?_
  refine Z_lmul 5 rfl ?_
  refine Z_lload_n 6 rfl rfl rfl ?_
  refine Z_lload 7 rfl rfl ?_
  refine Z_lmul 8 rfl ?_
  refine Z_lload 9 rfl rfl ?_
  refine Z_lmul 10 rfl ?_
  refine Z_ldc2 11 rfl k_S_48 (c := 3) rfl ?_
  refine Z_lload_n 12 rfl rfl rfl ?_
  refine Z_lmul 13 rfl ?_
  refine Z_ldc2 14 rfl k_S_27 (c := 2) rfl ?_
  refine Z_lload 15 rfl rfl ?_
  refine Z_lmul 16 rfl ?_
  refine Z_lsub 17 rfl ?_
  refine Z_lmul 18 rfl ?_
  refine Z_ldc2 19 rfl k_S_50 (c := 6) rfl ?_
  refine Z_lload_n 20 rfl rfl rfl ?_
  refine Z_lmul 21 rfl ?_
  refine Z_lload 22 rfl rfl ?_
  refine Z_lmul 23 rfl ?_
  refine Z_lload_n 24 rfl rfl rfl ?_
  refine Z_lload 25 rfl rfl ?_
  refine Z_lsub 26 rfl ?_
  refine Z_lmul 27 rfl ?_
  refine Z_ldc2 28 rfl k_S_50 (c := 6) rfl ?_
  refine Z_lload_n 29 rfl rfl rfl ?_
  refine Z_lmul 30 rfl ?_
  refine Z_lload_n 31 rfl rfl rfl ?_
  refine Z_ldc2 32 rfl k_S_27 (c := 2) rfl ?_
  refine Z_lload 33 rfl rfl ?_
  refine Z_lmul 34 rfl ?_
  refine Z_lsub 35 rfl ?_
  refine Z_lmul 36 rfl ?_
  refine Z_callVv (M' := M_S_write) 37 [0] rfl l_S_35 C_S_write (c_S_write l s (L * L * L) (r * u * u * (3 * L - 2 * u)) (6 * r * u * (L - u)) (6 * r * (L - 2 * u))) ⟨by decide, (zEL.c (Or.inl rfl) zEL.n)⟩ (Or.inl ⟨_, _, _, _, rfl, rfl⟩) rfl rfl rfl (Nat.le_of_ble_eq_true rfl) ⟨rfl, rfl, Nat.le_of_ble_eq_true rfl, Nat.le_of_ble_eq_true rfl⟩ ⟨Nat.zero_le _, Nat.zero_le _⟩ (fun out hq => ?_)
  obtain rfl := hq
  refine Z_mem (show _ = eS (sd 4 L r s.2.2.2.2 u) from rfl) ?_
  refine Z_vret 38 rfl rfl ⟨Nat.le_refl _, Nat.le_refl _⟩ ?_
  exact ⟨rfl, rfl⟩
theorem c_S_quintic (l : Launch) (s : SS) (L r u : Int) : Con l M_S_standInQuintic R_S_standInQuintic 0 0 false [.ref 0, .long (lI L), .long (lI r), .long (lI u)] (eS s) (zAv (fun m => m = eS (sd 5 L r s.2.2.2.2 u))) := by
  refine Con.of_Z (by decide) D_S_standInQuintic (Nat.le_of_ble_eq_true rfl) ?_
  refine Z_lload_n 0 rfl rfl rfl ?_
  refine Z_lload_n 1 rfl rfl rfl ?_
  refine Z_lmul 2 rfl ?_
  refine Z_lstore 3 rfl (Nat.le_of_ble_eq_true rfl) (lv' := [(7, .long _), (0, .ref _), (1, .long _), (3, .long _), (5, .long _)]) rfl ?_
  refine Z_lload_n 4 rfl rfl rfl ?_
  refine Z_lload 5 rfl rfl ?_
  refine Z_lsub 6 rfl ?_
  refine Z_lstore 7 rfl (Nat.le_of_ble_eq_true rfl) (lv' := [(9, .long _), (7, .long _), (0, .ref _), (1, .long _), (3, .long _), (5, .long _)]) rfl ?_
  refine Z_aload_n 8 rfl rfl rfl ?_
  refine Z_lload 9 rfl rfl ?_
  refine Z_lload 10 rfl rfl ?_
  refine Z_lmul 11 rfl ?_
  refine Z_lload_n 12 rfl rfl rfl ?_
  refine Z_lmul 13 rfl ?_
  refine Z_lload_n 14 rfl rfl rfl ?_
  refine Z_lload 15 rfl rfl ?_
  refine Z_lmul 16 rfl ?_
  refine Z_lload 17 rfl rfl ?_
  refine Z_lmul 18 rfl ?_
  refine Z_lload 19 rfl rfl ?_
  refine Z_lmul 20 rfl ?_
  refine Z_ldc2 21 rfl k_S_52 (c := 10) rfl ?_
  refine Z_lload 22 rfl rfl ?_
  refine Z_lmul 23 rfl ?_
  refine Z_ldc2 24 rfl k_S_54 (c := 15) rfl ?_
  refine Z_lload 25 rfl rfl ?_
  refine Z_lmul 26 rfl ?_
  refine Z_lload_n 27 rfl rfl rfl ?_
  refine Z_lmul 28 rfl ?_
  refine Z_lsub 29 rfl ?_
  refine Z_ldc2 30 rfl k_S_50 (c := 6) rfl ?_
  refine Z_lload 31 rfl rfl ?_
  refine Z_lmul 32 rfl ?_
  refine Z_lload 33 rfl rfl ?_
  refine Z_lmul 34 rfl ?_
  refine Z_ladd 35 rfl ?_
  refine Z_lmul 36 rfl ?_
  refine Z_ldc2 37 rfl k_S_56 (c := 30) rfl ?_
  refine Z_lload_n 38 rfl rfl rfl ?_
  refine Z_lmul 39 rfl ?_
  refine Z_lload 40 rfl rfl ?_
  refine Z_lmul 41 rfl ?_
  refine Z_lload 42 rfl rfl ?_
  refine Z_lmul 43 rfl ?_
  refine Z_lload 44 rfl rfl ?_
  refine Z_lmul 45 rfl ?_
  refine Z_lload 46 rfl rfl ?_
  refine Z_lmul 47 rfl ?_
  refine Z_ldc2 48 rfl k_S_58 (c := 60) rfl ?_
  refine Z_lload_n 49 rfl rfl rfl ?_
  refine Z_lmul 50 rfl ?_
  refine Z_lload 51 rfl rfl ?_
  refine Z_lmul 52 rfl ?_
  refine Z_lload 53 rfl rfl ?_
  refine Z_lmul 54 rfl ?_
  refine Z_lload 55 rfl rfl ?_
  refine Z_lload 56 rfl rfl ?_
  refine Z_lsub 57 rfl ?_
  refine Z_lmul 58 rfl ?_
  refine Z_callVv (M' := M_S_write) 59 [0] rfl l_S_35 C_S_write (c_S_write l s _ _ _ _) ⟨by decide, (zEL.c (Or.inl rfl) zEL.n)⟩ (Or.inl ⟨_, _, _, _, rfl, rfl⟩) rfl rfl rfl (Nat.le_of_ble_eq_true rfl) ⟨rfl, rfl, Nat.le_of_ble_eq_true rfl, Nat.le_of_ble_eq_true rfl⟩ ⟨Nat.zero_le _, Nat.zero_le _⟩ (fun out hq => ?_)
  obtain rfl := hq
  refine Z_mem (show _ = eS (sd 5 L r s.2.2.2.2 u) from rfl) ?_
  refine Z_vret 60 rfl rfl ⟨Nat.le_refl _, Nat.le_refl _⟩ ?_
  exact ⟨rfl, rfl⟩
theorem c_S_lift (l : Launch) (s : SS) : Con l M_S_lift R_S_lift 0 0 false [.ref 0] (eS s) (zAl (lf s) (fun m => m = eS s)) := by
  refine Con.of_Z (by decide) D_S_lift (Nat.le_of_ble_eq_true rfl) ?_
  refine Z_aload_n 0 rfl rfl rfl ?_
  refine Z_get 1 rfl f_S_24 rfl rfl ?_
  refine Z_aload_n 2 rfl rfl rfl ?_
  refine Z_get 3 rfl f_S_9 rfl rfl ?_
  refine Z_lmul 4 rfl ?_
  refine Z_aload_n 5 rfl rfl rfl ?_
  refine Z_get 6 rfl f_S_15 rfl rfl ?_
  refine Z_ladd 7 rfl ?_
  refine Z_lret 8 rfl rfl ⟨Nat.le_refl _, Nat.le_refl _⟩ ?_
  exact ⟨rfl, rfl⟩
theorem sd_o {k L r a u : Int} (h : k < 1 ∨ 5 < k) : sd k L r a u = (1, 0, 0, 0, a) := by
  unfold sd
  rw [if_neg (by omega), if_neg (by omega), if_neg (by omega), if_neg (by omega), if_neg (by omega)]
theorem c_S_stand (l : Launch) (s : SS) (k L r a u : Int) (hk : inI k) : Con l M_S_stand R_S_stand 0 0 false [.ref 0, .int (iI k), .long (lI L), .long (lI r), .long (lI a), .long (lI u)] (eS s) (zAv (fun m => m = eS (sd k L r a u))) := by
  refine Con.of_Z (by decide) D_S_stand (Nat.le_of_ble_eq_true rfl) ?_
  refine Z_aload_n 0 rfl rfl rfl ?_
  refine Z_lload 1 rfl rfl ?_
  refine Z_put 2 rfl f_S_24 rfl (Nat.le_of_ble_eq_true rfl) (fun _ => ⟨rfl, rfl⟩) (fs' := []) (mem' := eS (s.1, s.2.1, s.2.2.1, s.2.2.2.1, a)) rfl ?_
  refine Z_iload_n 3 rfl rfl rfl ?_
  rcases Classical.em (k < 1 ∨ 5 < k) with cs | cs
  · refine Z_tabOut 4 rfl hk cs (tgt := 154) rfl ?_
    refine Z_aload_n 70 rfl rfl rfl ?_
    refine Z_lconst 71 rfl ?_
    refine Z_lconst 72 rfl ?_
    refine Z_lconst 73 rfl ?_
    refine Z_lconst 74 rfl ?_
    refine Z_callVv (M' := M_S_write) 75 [0] rfl l_S_35 C_S_write (c_S_write l (s.1, s.2.1, s.2.2.1, s.2.2.2.1, a) _ _ _ _) ⟨by decide, (zEL.c (Or.inl rfl) zEL.n)⟩ (Or.inl ⟨_, _, _, _, rfl, rfl⟩) rfl rfl rfl (Nat.le_of_ble_eq_true rfl) ⟨rfl, rfl, Nat.le_of_ble_eq_true rfl, Nat.le_of_ble_eq_true rfl⟩ ⟨Nat.zero_le _, Nat.zero_le _⟩ (fun out hq => ?_)
    obtain rfl := hq
    refine Z_vret 76 rfl rfl ⟨Nat.le_refl _, Nat.le_refl _⟩ ?_
    first | (subst cs; exact ⟨rfl, rfl⟩) | (rw [sd_o cs]; exact ⟨rfl, rfl⟩)
  rcases (show k = 1 ∨ k = 2 ∨ k = 3 ∨ k = 4 ∨ k = 5 by omega) with cs | cs | cs | cs | cs
  · refine Z_ci cs ?_
    refine Z_tabIn 4 rfl (by decide) (by decide) (by decide) (off := 33) rfl (tgt := 40) rfl ?_
    refine Z_aload_n 5 rfl rfl rfl ?_
    refine Z_lload_n 6 rfl rfl rfl ?_
    refine Z_lload 7 rfl rfl ?_
    refine Z_lload 8 rfl rfl ?_
    refine Z_lmul 9 rfl ?_
    refine Z_lload 10 rfl rfl ?_
    refine Z_lconst 11 rfl ?_
    refine Z_callVv (M' := M_S_write) 12 [0] rfl l_S_35 C_S_write (c_S_write l (s.1, s.2.1, s.2.2.1, s.2.2.2.1, a) _ _ _ _) ⟨by decide, (zEL.c (Or.inl rfl) zEL.n)⟩ (Or.inl ⟨_, _, _, _, rfl, rfl⟩) rfl rfl rfl (Nat.le_of_ble_eq_true rfl) ⟨rfl, rfl, Nat.le_of_ble_eq_true rfl, Nat.le_of_ble_eq_true rfl⟩ ⟨Nat.zero_le _, Nat.zero_le _⟩ (fun out hq => ?_)
    obtain rfl := hq
    refine Z_goto 13 rfl (tgt := 162) rfl ?_
    refine Z_vret 76 rfl rfl ⟨Nat.le_refl _, Nat.le_refl _⟩ ?_
    first | (subst cs; exact ⟨rfl, rfl⟩) | (rw [sd_o cs]; exact ⟨rfl, rfl⟩)
  · refine Z_ci cs ?_
    refine Z_tabIn 4 rfl (by decide) (by decide) (by decide) (off := 49) rfl (tgt := 56) rfl ?_
    refine Z_aload_n 14 rfl rfl rfl ?_
    refine Z_lload_n 15 rfl rfl rfl ?_
    refine Z_lload_n 16 rfl rfl rfl ?_
    refine Z_lmul 17 rfl ?_
    refine Z_lload 18 rfl rfl ?_
    refine Z_lload 19 rfl rfl ?_
    refine Z_lmul 20 rfl ?_
    refine Z_lload 21 rfl rfl ?_
    refine Z_lmul 22 rfl ?_
    refine Z_ldc2 23 rfl k_S_27 (c := 2) rfl ?_
    refine Z_lload 24 rfl rfl ?_
    refine Z_lmul 25 rfl ?_
    refine Z_lload 26 rfl rfl ?_
    refine Z_lmul 27 rfl ?_
    refine Z_ldc2 28 rfl k_S_27 (c := 2) rfl ?_
    refine Z_lload 29 rfl rfl ?_
    refine Z_lmul 30 rfl ?_
    refine Z_callVv (M' := M_S_write) 31 [0] rfl l_S_35 C_S_write (c_S_write l (s.1, s.2.1, s.2.2.1, s.2.2.2.1, a) _ _ _ _) ⟨by decide, (zEL.c (Or.inl rfl) zEL.n)⟩ (Or.inl ⟨_, _, _, _, rfl, rfl⟩) rfl rfl rfl (Nat.le_of_ble_eq_true rfl) ⟨rfl, rfl, Nat.le_of_ble_eq_true rfl, Nat.le_of_ble_eq_true rfl⟩ ⟨Nat.zero_le _, Nat.zero_le _⟩ (fun out hq => ?_)
    obtain rfl := hq
    refine Z_goto 32 rfl (tgt := 162) rfl ?_
    refine Z_vret 76 rfl rfl ⟨Nat.le_refl _, Nat.le_refl _⟩ ?_
    first | (subst cs; exact ⟨rfl, rfl⟩) | (rw [sd_o cs]; exact ⟨rfl, rfl⟩)
  · refine Z_ci cs ?_
    refine Z_tabIn 4 rfl (by decide) (by decide) (by decide) (off := 82) rfl (tgt := 89) rfl ?_
    refine Z_aload_n 33 rfl rfl rfl ?_
    refine Z_lload_n 34 rfl rfl rfl ?_
    refine Z_lload_n 35 rfl rfl rfl ?_
    refine Z_lmul 36 rfl ?_
    refine Z_lload 37 rfl rfl ?_
    refine Z_lload 38 rfl rfl ?_
    refine Z_lmul 39 rfl ?_
    refine Z_ldc2 40 rfl k_S_27 (c := 2) rfl ?_
    refine Z_lload_n 41 rfl rfl rfl ?_
    refine Z_lmul 42 rfl ?_
    refine Z_lload 43 rfl rfl ?_
    refine Z_lsub 44 rfl ?_
    refine Z_lmul 45 rfl ?_
    refine Z_ldc2 46 rfl k_S_27 (c := 2) rfl ?_
    refine Z_lload 47 rfl rfl ?_
    refine Z_lmul 48 rfl ?_
    refine Z_lload_n 49 rfl rfl rfl ?_
    refine Z_lload 50 rfl rfl ?_
    refine Z_lsub 51 rfl ?_
    refine Z_lmul 52 rfl ?_
    refine Z_ldc2 53 rfl k_S_39 (c := -2) rfl ?_
    refine Z_lload 54 rfl rfl ?_
    refine Z_lmul 55 rfl ?_
    refine Z_callVv (M' := M_S_write) 56 [0] rfl l_S_35 C_S_write (c_S_write l (s.1, s.2.1, s.2.2.1, s.2.2.2.1, a) _ _ _ _) ⟨by decide, (zEL.c (Or.inl rfl) zEL.n)⟩ (Or.inl ⟨_, _, _, _, rfl, rfl⟩) rfl rfl rfl (Nat.le_of_ble_eq_true rfl) ⟨rfl, rfl, Nat.le_of_ble_eq_true rfl, Nat.le_of_ble_eq_true rfl⟩ ⟨Nat.zero_le _, Nat.zero_le _⟩ (fun out hq => ?_)
    obtain rfl := hq
    refine Z_goto 57 rfl (tgt := 162) rfl ?_
    refine Z_vret 76 rfl rfl ⟨Nat.le_refl _, Nat.le_refl _⟩ ?_
    first | (subst cs; exact ⟨rfl, rfl⟩) | (rw [sd_o cs]; exact ⟨rfl, rfl⟩)
  · refine Z_ci cs ?_
    refine Z_tabIn 4 rfl (by decide) (by decide) (by decide) (off := 123) rfl (tgt := 130) rfl ?_
    refine Z_aload_n 58 rfl rfl rfl ?_
    refine Z_lload_n 59 rfl rfl rfl ?_
    refine Z_lload 60 rfl rfl ?_
    refine Z_lload 61 rfl rfl ?_
    refine Z_callVv (M' := M_S_standInCubic) 62 [0] rfl l_S_41 C_S_standInCubic (c_S_cubic l (s.1, s.2.1, s.2.2.1, s.2.2.2.1, a) L r u) ⟨by decide, (zEL.c (Or.inl rfl) zEL.n)⟩ (Or.inl ⟨_, _, _, _, rfl, rfl⟩) rfl rfl rfl (Nat.le_of_ble_eq_true rfl) ⟨rfl, rfl, Nat.le_of_ble_eq_true rfl, Nat.le_of_ble_eq_true rfl⟩ ⟨Nat.zero_le _, Nat.zero_le _⟩ (fun out hq => ?_)
    obtain rfl := hq
    refine Z_goto 63 rfl (tgt := 162) rfl ?_
    refine Z_vret 76 rfl rfl ⟨Nat.le_refl _, Nat.le_refl _⟩ ?_
    first | (subst cs; exact ⟨rfl, rfl⟩) | (rw [sd_o cs]; exact ⟨rfl, rfl⟩)
  · refine Z_ci cs ?_
    refine Z_tabIn 4 rfl (by decide) (by decide) (by decide) (off := 135) rfl (tgt := 142) rfl ?_
    refine Z_aload_n 64 rfl rfl rfl ?_
    refine Z_lload_n 65 rfl rfl rfl ?_
    refine Z_lload 66 rfl rfl ?_
    refine Z_lload 67 rfl rfl ?_
    refine Z_callVv (M' := M_S_standInQuintic) 68 [0] rfl l_S_45 C_S_standInQuintic (c_S_quintic l (s.1, s.2.1, s.2.2.1, s.2.2.2.1, a) L r u) ⟨by decide, (zEL.c (Or.inl rfl) zEL.n)⟩ (Or.inl ⟨_, _, _, _, rfl, rfl⟩) rfl rfl rfl (Nat.le_of_ble_eq_true rfl) ⟨rfl, rfl, Nat.le_of_ble_eq_true rfl, Nat.le_of_ble_eq_true rfl⟩ ⟨Nat.zero_le _, Nat.zero_le _⟩ (fun out hq => ?_)
    obtain rfl := hq
    refine Z_goto 69 rfl (tgt := 162) rfl ?_
    refine Z_vret 76 rfl rfl ⟨Nat.le_refl _, Nat.le_refl _⟩ ?_
    first | (subst cs; exact ⟨rfl, rfl⟩) | (rw [sd_o cs]; exact ⟨rfl, rfl⟩)
/-- a sample -/
def smp (s : SS) (g : Int) : Int := s.2.2.2.2 * g + (2 * g * s.2.1 + s.1) / (2 * s.1)
theorem c_S_sampled (l : Launch) (s : SS) (g : Int) (h0 : 0 < s.1 ∧ s.1 ≤ 4611686018427387903) (h1 : inL (2 * g * s.2.1 + s.1)) : Con l M_S_sampled R_S_sampled 0 0 false [.ref 0, .long (lI g)] (eS s) (zAl (smp s g) (fun m => m = eS s)) := by
  refine Con.of_Z (by decide) D_S_sampled (Nat.le_of_ble_eq_true rfl) ?_
  refine Z_aload_n 0 rfl rfl rfl ?_
  refine Z_get 1 rfl f_S_9 rfl rfl ?_
  refine Z_lconst 2 rfl ?_
  refine Z_lc_le 3 rfl rfl (tgt := 45) rfl (by omega) (by omega) (fun c5 => ?_) (fun c5 => ?_)
  · exfalso; omega
  refine Z_aload_n 5 rfl rfl rfl ?_
  refine Z_get 6 rfl f_S_24 rfl rfl ?_
  refine Z_lload_n 7 rfl rfl rfl ?_
  refine Z_lmul 8 rfl ?_
  refine Z_ldc2 9 rfl k_S_27 (c := 2) rfl ?_
  refine Z_lload_n 10 rfl rfl rfl ?_
  refine Z_lmul 11 rfl ?_
  refine Z_aload_n 12 rfl rfl rfl ?_
  refine Z_get 13 rfl f_S_15 rfl rfl ?_
  refine Z_lmul 14 rfl ?_
  refine Z_aload_n 15 rfl rfl rfl ?_
  refine Z_get 16 rfl f_S_9 rfl rfl ?_
  refine Z_ladd 17 rfl ?_
  refine Z_ldc2 18 rfl k_S_27 (c := 2) rfl ?_
  refine Z_aload_n 19 rfl rfl rfl ?_
  refine Z_get 20 rfl f_S_9 rfl rfl ?_
  refine Z_lmul 21 rfl ?_
  refine Z_callSlp (M' := M_J9_floorDiv) 22 [] rfl l_S_29 C_J9_floorDiv (c_floorDiv l (2 * g * s.2.1 + s.1) (2 * s.1) h1 (by omega) (by omega)) ⟨List.nodup_nil, zEL.n⟩ rfl rfl rfl (Nat.le_of_ble_eq_true rfl) ⟨rfl, rfl, Nat.le_of_ble_eq_true rfl, Nat.le_of_ble_eq_true rfl⟩ ⟨Nat.zero_le _, Nat.zero_le _⟩ ?_
  refine Z_ladd 23 rfl ?_
  refine Z_goto 24 rfl (tgt := 46) rfl ?_
  refine Z_lret 26 rfl rfl ⟨Nat.le_refl _, Nat.le_refl _⟩ ?_
  exact ⟨rfl, rfl⟩
