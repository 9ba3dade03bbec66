/-! the model: a text's bytes, words, figures -/
theorem wd_e {k i : Int} (hk : 0 ≤ k ∧ k ≤ 5) (hi : 0 ≤ i ∧ i < 7) : wdF (7 * k + i) = stB k.toNat i := by
  unfold wdF
  rw [show (7 * k + i) / 7 = k by omega, show (7 * k + i) % 7 = i by omega]
theorem wd_0 : ∀ k : Nat, k < 6 → ∀ i : Nat, i < 7 → (stB k i = 0 ↔ wln k ≤ (i : Int)) := by decide +kernel
theorem wd_i {k i : Int} (hk : 0 ≤ k ∧ k ≤ 5) (hi : 0 ≤ i ∧ i < 7) : stB k.toNat i = 0 ↔ wln k ≤ i := by
  have h := wd_0 k.toNat (by omega) i.toNat (by omega)
  rw [show ((k.toNat : Nat) : Int) = k by omega, show ((i.toNat : Nat) : Int) = i by omega] at h
  exact h
theorem wln_bd {k : Int} (hk : 0 ≤ k ∧ k ≤ 5) : 4 ≤ wln k ∧ wln k ≤ 7 := by
  unfold wln
  repeat' split
  all_goals omega
theorem bt_bd {b : Int → Int} (hb : ∀ i, 0 ≤ b i ∧ b i ≤ 127) (n k : Int) : -1 ≤ bt b n k ∧ bt b n k ≤ 127 := by
  have := hb k
  unfold bt
  split <;> omega
section M11
variable (l : Launch) (p : MP) (he fa li sl be ov av bl : Int) (kw sm : Int → Int)
theorem c_M_byteAt (h : MV p) (k ma mf mw : Int) (cj : TT) (hk : 0 ≤ k ∧ inI k) : Con l M_M_byteAt R_M_byteAt 0 0 false [.ref 0, .int (iI k)] (eM p he fa li sl be ov av bl kw sm ma mf mw cj) (zAi (bt p.tb p.ts k) (fun m => m = eM p he fa li sl be ov av bl kw sm ma mf mw cj)) := by
  have hts := h.2.2.2.2.2.1
  refine Con.of_Z (by decide) D_M_byteAt (Nat.le_of_ble_eq_true rfl) ?_
  refine Z_iload_n 0 rfl rfl rfl ?_
  refine Z_aload_n 1 rfl rfl rfl ?_
  refine Z_get 2 rfl f_M_123 rfl rfl ?_
  refine Z_icmp_ge 3 rfl (tgt := 17) rfl (by omega) (by omega) (fun c5 => ?_) (fun c5 => ?_)
  · refine Z_iconst 9 rfl ?_
    refine Z_iret 10 rfl rfl ⟨Nat.le_refl _, Nat.le_refl _⟩ ?_
    exact ⟨by unfold bt; first | rw [if_pos (by omega)] | rw [if_neg (by omega)], rfl⟩
  · refine Z_aload_n 4 rfl rfl rfl ?_
    refine Z_get 5 rfl f_M_37 rfl rfl ?_
    refine Z_iload_n 6 rfl rfl rfl ?_
    refine Z_ia 7 rfl rfl (by omega) (by decide) ?_
    refine Z_goto 8 rfl (tgt := 18) rfl ?_
    refine Z_iret 10 rfl rfl ⟨Nat.le_refl _, Nat.le_refl _⟩ ?_
    exact ⟨by unfold bt; first | rw [if_pos (by omega)] | rw [if_neg (by omega)], rfl⟩
theorem c_M_isFigure (h : MV p) (k ma mf mw : Int) (cj : TT) (hk : 0 ≤ k ∧ inI k) : Con l M_M_isFigure R_M_isFigure 0 0 false [.ref 0, .int (iI k)] (eM p he fa li sl be ov av bl kw sm ma mf mw cj) (zAb (isF (bt p.tb p.ts k)) (fun m => m = eM p he fa li sl be ov av bl kw sm ma mf mw cj)) := by
  have hbb := bt_bd h.2.2.2.2.1 p.ts k
  refine Con.of_Z (by decide) D_M_isFigure (Nat.le_of_ble_eq_true rfl) ?_
  refine Z_aload_n 0 rfl rfl rfl ?_
  refine Z_iload_n 1 rfl rfl rfl ?_
  refine Z_callVip (M' := M_M_byteAt) 2 isM rfl l_M_316 C_M_byteAt (c_M_byteAt l p he fa li sl be ov av bl kw sm h k ma mf mw cj hk) (emM ..) (Or.inl ⟨_, _, _, _, rfl, rfl⟩) rfl rfl rfl (Nat.le_of_ble_eq_true rfl) ⟨rfl, rfl, Nat.le_of_ble_eq_true rfl, Nat.le_of_ble_eq_true rfl⟩ ⟨Nat.zero_le _, Nat.zero_le _⟩ ?_
  refine Z_i2l 3 rfl (by omega) ?_
  refine Z_ldc2 4 rfl k_M_319 (c := 48) rfl ?_
  refine Z_ldc2 5 rfl k_M_239 (c := 57) rfl ?_
  refine Z_callSbp (M' := M_M_in) 6 [] rfl l_M_80 C_M_in (c_M_in l _ _ _ (by omega) (by omega) (by omega)) ⟨List.nodup_nil, zEL.n⟩ rfl rfl rfl (Nat.le_of_ble_eq_true rfl) ⟨rfl, rfl, Nat.le_of_ble_eq_true rfl, Nat.le_of_ble_eq_true rfl⟩ ⟨Nat.zero_le _, Nat.zero_le _⟩ ?_
  refine Z_zret 7 rfl rfl (bI_nar _) ⟨Nat.le_refl _, Nat.le_refl _⟩ ?_
  exact ⟨rfl, rfl⟩
def flM (mf x y : Int) : Int := if mf = -1 then x else y
theorem c_M_fails (ma mf mw x y : Int) (cj : TT) (hf : inI mf) : Con l M_M_fails R_M_fails 0 0 false [.ref 0, .int (iI x), .int (iI y)] (eM p he fa li sl be ov av bl kw sm ma mf mw cj) (zAv (fun m => m = eM p he fa li sl be ov av bl kw sm ma (flM mf x mf) (flM mf y mw) cj)) := by
  refine Con.of_Z (by decide) D_M_fails (Nat.le_of_ble_eq_true rfl) ?_
  refine Z_aload_n 0 rfl rfl rfl ?_
  refine Z_get 1 rfl f_M_321 rfl rfl ?_
  refine Z_iconst 2 rfl ?_
  refine Z_icmp_eq 3 rfl (tgt := 9) rfl (by omega) (by omega) (fun c5 => ?_) (fun c5 => ?_)
  · refine Z_aload_n 5 rfl rfl rfl ?_
    refine Z_iload_n 6 rfl rfl rfl ?_
    refine Z_put 7 rfl f_M_321 rfl (Nat.le_of_ble_eq_true rfl) (fun _ => ⟨rfl, rfl⟩) (fs' := []) (mem' := eM p he fa li sl be ov av bl kw sm ma x mw cj) rfl ?_
    refine Z_aload_n 8 rfl rfl rfl ?_
    refine Z_iload_n 9 rfl rfl rfl ?_
    refine Z_put 10 rfl f_M_324 rfl (Nat.le_of_ble_eq_true rfl) (fun _ => ⟨rfl, rfl⟩) (fs' := []) (mem' := eM p he fa li sl be ov av bl kw sm ma x y cj) rfl ?_
    refine Z_vret 11 rfl rfl ⟨Nat.le_refl _, Nat.le_refl _⟩ ?_
    exact ⟨rfl, by unfold flM; first | rw [if_pos (by omega), if_pos (by omega)] | rw [if_neg (by omega), if_neg (by omega)]⟩
  · refine Z_vret 4 rfl rfl ⟨Nat.le_refl _, Nat.le_refl _⟩ ?_
    exact ⟨rfl, by unfold flM; first | rw [if_pos (by omega), if_pos (by omega)] | rw [if_neg (by omega), if_neg (by omega)]⟩
theorem c_M_failsHere (h : MV p) (ma mf mw : Int) (cj : TT) (hf : inI mf) (hm : inI ma) : Con l M_M_failsHere R_M_failsHere 0 0 false [.ref 0] (eM p he fa li sl be ov av bl kw sm ma mf mw cj) (zAv (fun m => m = eM p he fa li sl be ov av bl kw sm ma (flM mf ma mf) (flM mf (if ma = p.ts then 5 else 4) mw) cj)) := by
  have hts := h.2.2.2.2.2.1
  refine Con.of_Z (by decide) D_M_failsHere (Nat.le_of_ble_eq_true rfl) ?_
  refine Z_aload_n 0 rfl rfl rfl ?_
  refine Z_aload_n 1 rfl rfl rfl ?_
  refine Z_get 2 rfl f_M_327 rfl rfl ?_
  refine Z_aload_n 3 rfl rfl rfl ?_
  refine Z_get 4 rfl f_M_327 rfl rfl ?_
  refine Z_aload_n 5 rfl rfl rfl ?_
  refine Z_get 6 rfl f_M_123 rfl rfl ?_
  refine Z_icmp_ne 7 rfl (tgt := 20) rfl (by omega) (by omega) (fun c13 => ?_) (fun c13 => ?_)
  · refine Z_iconst 10 rfl ?_
    refine Z_ci (show _ = (if ma = p.ts then 5 else 4) by first | (rw [if_pos (by omega)] <;> rfl) | (rw [if_neg (by omega)] <;> rfl)) ?_
    refine Z_callVv (M' := M_M_fails) 11 isM rfl l_M_330 C_M_fails (c_M_fails l p he fa li sl be ov av bl kw sm ma mf mw ma (if ma = p.ts then 5 else 4) cj hf) (emM ..) (Or.inl ⟨_, _, _, _, rfl, rfl⟩) rfl rfl rfl (Nat.le_of_ble_eq_true rfl) ⟨rfl, rfl, Nat.le_of_ble_eq_true rfl, Nat.le_of_ble_eq_true rfl⟩ ⟨Nat.zero_le _, Nat.zero_le _⟩ (fun out hq => ?_)
    obtain rfl := hq
    refine Z_mem (mgM ..) ?_
    refine Z_vret 12 rfl rfl ⟨Nat.le_refl _, Nat.le_refl _⟩ ?_
    exact ⟨rfl, rfl⟩
  · refine Z_iconst 8 rfl ?_
    refine Z_goto 9 rfl (tgt := 21) rfl ?_
    refine Z_ci (show _ = (if ma = p.ts then 5 else 4) by first | (rw [if_pos (by omega)] <;> rfl) | (rw [if_neg (by omega)] <;> rfl)) ?_
    refine Z_callVv (M' := M_M_fails) 11 isM rfl l_M_330 C_M_fails (c_M_fails l p he fa li sl be ov av bl kw sm ma mf mw ma (if ma = p.ts then 5 else 4) cj hf) (emM ..) (Or.inl ⟨_, _, _, _, rfl, rfl⟩) rfl rfl rfl (Nat.le_of_ble_eq_true rfl) ⟨rfl, rfl, Nat.le_of_ble_eq_true rfl, Nat.le_of_ble_eq_true rfl⟩ ⟨Nat.zero_le _, Nat.zero_le _⟩ (fun out hq => ?_)
    obtain rfl := hq
    refine Z_mem (mgM ..) ?_
    refine Z_vret 12 rfl rfl ⟨Nat.le_refl _, Nat.le_refl _⟩ ?_
    exact ⟨rfl, rfl⟩
theorem c_M_takes (h : MV p) (c ma mf mw : Int) (cj : TT) (hc : inI c) (hf : inI mf) (hm : 0 ≤ ma ∧ inI ma) : Con l M_M_takes R_M_takes 0 0 false [.ref 0, .int (iI c)] (eM p he fa li sl be ov av bl kw sm ma mf mw cj) (zAv (fun m => (mf ≠ -1 ∧ m = eM p he fa li sl be ov av bl kw sm ma mf mw cj) ∨ (mf = -1 ∧ bt p.tb p.ts ma = c ∧ m = eM p he fa li sl be ov av bl kw sm (ma + 1) mf mw cj) ∨ (mf = -1 ∧ bt p.tb p.ts ma ≠ c ∧ m = eM p he fa li sl be ov av bl kw sm ma ma (if ma = p.ts then 5 else 4) cj))) := by
  have hbb := bt_bd h.2.2.2.2.1 p.ts ma
  refine Con.of_Z (by decide) D_M_takes (Nat.le_of_ble_eq_true rfl) ?_
  refine Z_aload_n 0 rfl rfl rfl ?_
  refine Z_get 1 rfl f_M_321 rfl rfl ?_
  refine Z_iconst 2 rfl ?_
  refine Z_icmp_eq 3 rfl (tgt := 9) rfl (by omega) (by omega) (fun c5 => ?_) (fun c5 => ?_)
  · refine Z_aload_n 5 rfl rfl rfl ?_
    refine Z_aload_n 6 rfl rfl rfl ?_
    refine Z_get 7 rfl f_M_327 rfl rfl ?_
    refine Z_callVip (M' := M_M_byteAt) 8 isM rfl l_M_316 C_M_byteAt (c_M_byteAt l p he fa li sl be ov av bl kw sm h ma ma mf mw cj hm) (emM ..) (Or.inl ⟨_, _, _, _, rfl, rfl⟩) rfl rfl rfl (Nat.le_of_ble_eq_true rfl) ⟨rfl, rfl, Nat.le_of_ble_eq_true rfl, Nat.le_of_ble_eq_true rfl⟩ ⟨Nat.zero_le _, Nat.zero_le _⟩ ?_
    refine Z_iload_n 9 rfl rfl rfl ?_
    refine Z_icmp_ne 10 rfl (tgt := 34) rfl (by omega) (by omega) (fun c18 => ?_) (fun c18 => ?_)
    · refine Z_aload_n 18 rfl rfl rfl ?_
      refine Z_callVv (M' := M_M_failsHere) 19 isM rfl l_M_333 C_M_failsHere (c_M_failsHere l p he fa li sl be ov av bl kw sm h ma mf mw cj hf hm.2) (emM ..) (Or.inl ⟨_, _, _, _, rfl, rfl⟩) rfl rfl rfl (Nat.le_of_ble_eq_true rfl) ⟨rfl, rfl, Nat.le_of_ble_eq_true rfl, Nat.le_of_ble_eq_true rfl⟩ ⟨Nat.zero_le _, Nat.zero_le _⟩ (fun out hq => ?_)
      obtain rfl := hq
      refine Z_mem (mgM ..) ?_
      refine Z_vret 20 rfl rfl ⟨Nat.le_refl _, Nat.le_refl _⟩ ?_
      first | exact ⟨rfl, Or.inl ⟨by omega, rfl⟩⟩ | exact ⟨rfl, Or.inr (Or.inl ⟨by omega, by omega, rfl⟩)⟩ | exact ⟨rfl, Or.inr (Or.inr ⟨by omega, by omega, by unfold flM; rw [if_pos (by omega), if_pos (by omega)]⟩)⟩
    · refine Z_aload_n 11 rfl rfl rfl ?_
      refine Z_dup 12 rfl rfl ?_
      refine Z_get 13 rfl f_M_327 rfl rfl ?_
      refine Z_iconst 14 rfl ?_
      refine Z_iadd 15 rfl ?_
      refine Z_put 16 rfl f_M_327 rfl (Nat.le_of_ble_eq_true rfl) (fun _ => ⟨rfl, rfl⟩) (fs' := []) (mem' := eM p he fa li sl be ov av bl kw sm (ma + 1) mf mw cj) rfl ?_
      refine Z_goto 17 rfl (tgt := 38) rfl ?_
      refine Z_vret 20 rfl rfl ⟨Nat.le_refl _, Nat.le_refl _⟩ ?_
      first | exact ⟨rfl, Or.inl ⟨by omega, rfl⟩⟩ | exact ⟨rfl, Or.inr (Or.inl ⟨by omega, by omega, rfl⟩)⟩ | exact ⟨rfl, Or.inr (Or.inr ⟨by omega, by omega, by unfold flM; rw [if_pos (by omega), if_pos (by omega)]⟩)⟩
  · refine Z_vret 4 rfl rfl ⟨Nat.le_refl _, Nat.le_refl _⟩ ?_
    first | exact ⟨rfl, Or.inl ⟨by omega, rfl⟩⟩ | exact ⟨rfl, Or.inr (Or.inl ⟨by omega, by omega, rfl⟩)⟩ | exact ⟨rfl, Or.inr (Or.inr ⟨by omega, by omega, by unfold flM; rw [if_pos (by omega), if_pos (by omega)]⟩)⟩
theorem lp_M_isWord (h : MV p) (k n ma mf mw : Int) (cj : TT) (hk : 0 ≤ k ∧ k ≤ 5) (hn : 0 ≤ n ∧ ma + n ≤ p.ts) (hm : 0 ≤ ma) (hl : ∀ i, 0 ≤ i → i < n → isL (bt p.tb p.ts (ma + i))) : ∀ (d : Nat) (i : Int), 0 ≤ i → i ≤ 7 → 7 - i < d → (∀ j, 0 ≤ j → j < i → (j < n → p.tb (ma + j) = stB k.toNat j) ∧ (n ≤ j → wln k ≤ j)) → Z (l, M_M_isWord, R_M_isWord, (0, 0), false, zAb (IsW p.tb ma (ma + n) k) (fun m => m = eM p he fa li sl be ov av bl kw sm ma mf mw cj)) 0 0 (eM p he fa li sl be ov av bl kw sm ma mf mw cj) 2 [(0, .ref 0), (1, .int (iI k)), (2, .int (iI n)), (3, .int (iI i))] [] := by
  have hts := h.2.2.2.2.2.1
  have hw := wln_bd hk
  intro d
  induction d with
  | zero => intro i h2 h3 h4; omega
  | succ d ih =>
    intro i h2 h3 h4 h5
    have hbb := bt_bd h.2.2.2.2.1 p.ts (ma + i)
    have hb1 : i < n → bt p.tb p.ts (ma + i) = p.tb (ma + i) := fun z => by unfold bt; rw [if_pos (by omega)]
    have hwd : i < 7 → wdF (7 * k + i) = stB k.toNat i := fun z => wd_e hk ⟨h2, z⟩
    have hwi : i < 7 → (stB k.toNat i = 0 ↔ wln k ≤ i) := fun z => wd_i hk ⟨h2, z⟩
    have hsb : i < 7 → 0 ≤ stB k.toNat i ∧ stB k.toNat i ≤ 127 := fun z => stB_bd k.toNat i (by omega) ⟨h2, z⟩
    refine Z_iload_n 2 rfl rfl rfl ?_
    refine Z_bipush 3 rfl rfl ?_
    refine Z_icmp_ge 4 rfl (tgt := 57) rfl (by omega) (by omega) (fun c5 => ?_) (fun c5 => ?_)
    · refine Z_iload_n 32 rfl rfl rfl ?_
      refine Z_bipush 33 rfl rfl ?_
      refine Z_icmp_gt 34 rfl (tgt := 67) rfl (by omega) (by omega) (fun c60 => ?_) (fun c60 => ?_)
      · refine Z_iconst 37 rfl ?_
        refine Z_zret 38 rfl rfl rfl ⟨Nat.le_refl _, Nat.le_refl _⟩ ?_
        first
          | exact ⟨bF (fun z => by have := z.1; omega), rfl⟩
          | (refine ⟨bT ⟨?_, fun j j1 j2 => ?_⟩, rfl⟩
             · have u1 : wln k ≤ n := by
                 rcases Int.lt_or_le n 7 with z | z
                 · exact (h5 n hn.1 (by omega)).2 (Int.le_refl n)
                 · omega
               have u2 : n ≤ wln k := by
                 rcases Int.lt_or_le (wln k) n with z | z
                 · exfalso
                   have q1 := (h5 (wln k) (by omega) (by omega)).1 z
                   have q2 := hl (wln k) (by omega) z
                   have q3 := (wd_i hk (i := wln k) (by omega)).mpr (Int.le_refl _)
                   unfold bt at q2
                   rw [if_pos (by omega)] at q2
                   omega
                 · exact z
               omega
             · have u1 : wln k ≤ n := by
                 rcases Int.lt_or_le n 7 with z | z
                 · exact (h5 n hn.1 (by omega)).2 (Int.le_refl n)
                 · omega
               exact (h5 j j1 (by omega)).1 (by omega))
      · refine Z_iconst 35 rfl ?_
        refine Z_goto 36 rfl (tgt := 68) rfl ?_
        refine Z_zret 38 rfl rfl rfl ⟨Nat.le_refl _, Nat.le_refl _⟩ ?_
        first
          | exact ⟨bF (fun z => by have := z.1; omega), rfl⟩
          | (refine ⟨bT ⟨?_, fun j j1 j2 => ?_⟩, rfl⟩
             · have u1 : wln k ≤ n := by
                 rcases Int.lt_or_le n 7 with z | z
                 · exact (h5 n hn.1 (by omega)).2 (Int.le_refl n)
                 · omega
               have u2 : n ≤ wln k := by
                 rcases Int.lt_or_le (wln k) n with z | z
                 · exfalso
                   have q1 := (h5 (wln k) (by omega) (by omega)).1 z
                   have q2 := hl (wln k) (by omega) z
                   have q3 := (wd_i hk (i := wln k) (by omega)).mpr (Int.le_refl _)
                   unfold bt at q2
                   rw [if_pos (by omega)] at q2
                   omega
                 · exact z
               omega
             · have u1 : wln k ≤ n := by
                 rcases Int.lt_or_le n 7 with z | z
                 · exact (h5 n hn.1 (by omega)).2 (Int.le_refl n)
                 · omega
               exact (h5 j j1 (by omega)).1 (by omega))
    · refine Z_aload_n 5 rfl rfl rfl ?_
      refine Z_get 6 rfl f_M_53 rfl rfl ?_
      refine Z_bipush 7 rfl rfl ?_
      refine Z_iload_n 8 rfl rfl rfl ?_
      refine Z_imul 9 rfl ?_
      refine Z_iload_n 10 rfl rfl rfl ?_
      refine Z_iadd 11 rfl ?_
      refine Z_ia 12 rfl rfl (by omega) (by decide) ?_
      refine Z_ci (hwd (by omega)) ?_
      refine Z_istore 13 rfl (Nat.le_of_ble_eq_true rfl) (lv' := [(4, .int _), (0, .ref _), (1, .int _), (2, .int _), (3, .int _)]) rfl ?_
      refine Z_iload_n 14 rfl rfl rfl ?_
      refine Z_iload_n 15 rfl rfl rfl ?_
      refine Z_icmp_ge 16 rfl (tgt := 44) rfl (by omega) (by omega) (fun c23 => ?_) (fun c23 => ?_)
      · refine Z_iload 26 rfl rfl ?_
        refine Z_if_eq 27 rfl (tgt := 51) rfl (by omega) (fun c46 => ?_) (fun c46 => ?_)
        · refine Z_iinc 30 rfl rfl (Nat.le_of_ble_eq_true rfl) (lv' := [(3, .int _), (4, .int _), (0, .ref _), (1, .int _), (2, .int _)]) rfl ?_
          refine Z_goto 31 rfl (tgt := 2) rfl ?_
          refine Z_pick [0, 1, 2, 3] (lv' := [(0, .ref _), (1, .int _), (2, .int _), (3, .int _)]) rfl ?_
          exact ih (i + 1) (by omega) (by omega) (by omega) (fun j j1 j2 => by
            by_cases e : j = i
            · rw [e]
              have := hwi (by omega)
              omega
            · exact h5 j j1 (by omega))
        · refine Z_iconst 28 rfl ?_
          refine Z_zret 29 rfl rfl rfl ⟨Nat.le_refl _, Nat.le_refl _⟩ ?_
          exact ⟨bF (fun z => by
            have z2 := z.1
            first
              | (exact absurd (z.2 i h2 (by omega)) (by assumption))
              | (have := z.2 i h2 (by omega); omega)
              | (have := (hwi (by omega)); omega)), rfl⟩
      · refine Z_aload_n 17 rfl rfl rfl ?_
        refine Z_aload_n 18 rfl rfl rfl ?_
        refine Z_get 19 rfl f_M_327 rfl rfl ?_
        refine Z_iload_n 20 rfl rfl rfl ?_
        refine Z_iadd 21 rfl ?_
        refine Z_callVip (M' := M_M_byteAt) 22 isM rfl l_M_316 C_M_byteAt (c_M_byteAt l p he fa li sl be ov av bl kw sm h (ma + i) ma mf mw cj (by omega)) (emM ..) (Or.inl ⟨_, _, _, _, rfl, rfl⟩) rfl rfl rfl (Nat.le_of_ble_eq_true rfl) ⟨rfl, rfl, Nat.le_of_ble_eq_true rfl, Nat.le_of_ble_eq_true rfl⟩ ⟨Nat.zero_le _, Nat.zero_le _⟩ ?_
        rw [hb1 (by omega)]
        have hbb2 := h.2.2.2.2.1 (ma + i)
        refine Z_iload 23 rfl rfl ?_
        refine Z_icmp_eq 24 rfl (tgt := 51) rfl (by omega) (by omega) (fun c38 => ?_) (fun c38 => ?_)
        · refine Z_iinc 30 rfl rfl (Nat.le_of_ble_eq_true rfl) (lv' := [(3, .int _), (4, .int _), (0, .ref _), (1, .int _), (2, .int _)]) rfl ?_
          refine Z_goto 31 rfl (tgt := 2) rfl ?_
          refine Z_pick [0, 1, 2, 3] (lv' := [(0, .ref _), (1, .int _), (2, .int _), (3, .int _)]) rfl ?_
          exact ih (i + 1) (by omega) (by omega) (by omega) (fun j j1 j2 => by
            by_cases e : j = i
            · rw [e]
              have := hwi (by omega)
              omega
            · exact h5 j j1 (by omega))
        · refine Z_goto 25 rfl (tgt := 49) rfl ?_
          refine Z_iconst 28 rfl ?_
          refine Z_zret 29 rfl rfl rfl ⟨Nat.le_refl _, Nat.le_refl _⟩ ?_
          exact ⟨bF (fun z => by
            have z2 := z.1
            first
              | (exact absurd (z.2 i h2 (by omega)) (by assumption))
              | (have := z.2 i h2 (by omega); omega)
              | (have := (hwi (by omega)); omega)), rfl⟩
theorem c_M_isWord (h : MV p) (k n ma mf mw : Int) (cj : TT) (hk : 0 ≤ k ∧ k ≤ 5) (hn : 0 ≤ n ∧ ma + n ≤ p.ts) (hm : 0 ≤ ma) (hl : ∀ i, 0 ≤ i → i < n → isL (bt p.tb p.ts (ma + i))) : Con l M_M_isWord R_M_isWord 0 0 false [.ref 0, .int (iI k), .int (iI n)] (eM p he fa li sl be ov av bl kw sm ma mf mw cj) (zAb (IsW p.tb ma (ma + n) k) (fun m => m = eM p he fa li sl be ov av bl kw sm ma mf mw cj)) := by
  refine Con.of_Z (by decide) D_M_isWord (Nat.le_of_ble_eq_true rfl) ?_
  refine Z_iconst 0 rfl ?_
  refine Z_istore_n 1 rfl rfl (Nat.le_of_ble_eq_true rfl) (lv' := [(3, .int _), (0, .ref _), (1, .int _), (2, .int _)]) rfl ?_
  refine Z_pick [0, 1, 2, 3] (lv' := [(0, .ref _), (1, .int _), (2, .int _), (3, .int _)]) rfl ?_
  exact lp_M_isWord l p he fa li sl be ov av bl kw sm h k n ma mf mw cj hk hn hm hl 8 0 (by omega) (by omega) (by omega) (fun j j1 j2 => by omega)
/-- behind a word -/
def WoM (ma mf mw : Int) (cj : TT) : List zE → Prop := fun m => m = eM p he fa li sl be ov av bl kw sm (if kd2 p.tb p.ts ma = -1 then ma else wE p.tb p.ts ma) (if kd2 p.tb p.ts ma = -1 then flM mf ma mf else mf) (if kd2 p.tb p.ts ma = -1 then flM mf (if ma = p.ts then 5 else 1) mw else mw) cj
theorem lp2_M_wordRead (h : MV p) (n ma mf mw : Int) (cj : TT) (hf : inI mf) (hm : 0 ≤ ma ∧ ma ≤ p.ts) (hn : 0 ≤ n) (hE : IsE p.tb p.ts ma (ma + n)) : ∀ (d : Nat) (k : Int), 0 ≤ k → k ≤ 6 → 6 - k < d → (∀ j, 0 ≤ j → j < k → ¬ IsW p.tb ma (ma + n) j) → Z (l, M_M_wordRead, R_M_wordRead, (0, 0), false, zAi (kd2 p.tb p.ts ma) (WoM p he fa li sl be ov av bl kw sm ma mf mw cj)) 0 0 (eM p he fa li sl be ov av bl kw sm ma mf mw cj) 33 [(0, .ref 0), (1, .int (iI n)), (2, .int (iI k))] [] := by
  have hts := h.2.2.2.2.2.1
  have hle := IsE_le hE hm.2
  intro d
  induction d with
  | zero => intro k h2 h3 h4; omega
  | succ d ih =>
    intro k h2 h3 h4 h5
    refine Z_iload_n 17 rfl rfl rfl ?_
    refine Z_iconst 18 rfl ?_
    refine Z_icmp_gt 19 rfl (tgt := 68) rfl (by omega) (by omega) (fun c35 => ?_) (fun c35 => ?_)
    · refine Z_aload_n 36 rfl rfl rfl ?_
      refine Z_aload_n 37 rfl rfl rfl ?_
      refine Z_get 38 rfl f_M_327 rfl rfl ?_
      refine Z_aload_n 39 rfl rfl rfl ?_
      refine Z_get 40 rfl f_M_327 rfl rfl ?_
      refine Z_aload_n 41 rfl rfl rfl ?_
      refine Z_get 42 rfl f_M_123 rfl rfl ?_
      refine Z_icmp_ne 43 rfl (tgt := 88) rfl (by omega) (by omega) (fun c81 => ?_) (fun c81 => ?_)
      · refine Z_iconst 46 rfl ?_
        refine Z_ci (show _ = (if ma = p.ts then 5 else 1) by first | (rw [if_pos (by omega)] <;> rfl) | (rw [if_neg (by omega)] <;> rfl)) ?_
        refine Z_callVv (M' := M_M_fails) 47 isM rfl l_M_330 C_M_fails (c_M_fails l p he fa li sl be ov av bl kw sm ma mf mw ma (if ma = p.ts then 5 else 1) cj hf) (emM ..) (Or.inl ⟨_, _, _, _, rfl, rfl⟩) rfl rfl rfl (Nat.le_of_ble_eq_true rfl) ⟨rfl, rfl, Nat.le_of_ble_eq_true rfl, Nat.le_of_ble_eq_true rfl⟩ ⟨Nat.zero_le _, Nat.zero_le _⟩ (fun out hq => ?_)
        obtain rfl := hq
        refine Z_mem (mgM ..) ?_
        refine Z_iconst 48 rfl ?_
        refine Z_iret 49 rfl rfl ⟨Nat.le_refl _, Nat.le_refl _⟩ ?_
        have e := kd2_n hE (fun j j1 j2 => h5 j j1 (by omega))
        exact ⟨by rw [e], by unfold WoM; rw [e, if_pos rfl, if_pos rfl, if_pos rfl]⟩
      · refine Z_iconst 44 rfl ?_
        refine Z_goto 45 rfl (tgt := 89) rfl ?_
        refine Z_ci (show _ = (if ma = p.ts then 5 else 1) by first | (rw [if_pos (by omega)] <;> rfl) | (rw [if_neg (by omega)] <;> rfl)) ?_
        refine Z_callVv (M' := M_M_fails) 47 isM rfl l_M_330 C_M_fails (c_M_fails l p he fa li sl be ov av bl kw sm ma mf mw ma (if ma = p.ts then 5 else 1) cj hf) (emM ..) (Or.inl ⟨_, _, _, _, rfl, rfl⟩) rfl rfl rfl (Nat.le_of_ble_eq_true rfl) ⟨rfl, rfl, Nat.le_of_ble_eq_true rfl, Nat.le_of_ble_eq_true rfl⟩ ⟨Nat.zero_le _, Nat.zero_le _⟩ (fun out hq => ?_)
        obtain rfl := hq
        refine Z_mem (mgM ..) ?_
        refine Z_iconst 48 rfl ?_
        refine Z_iret 49 rfl rfl ⟨Nat.le_refl _, Nat.le_refl _⟩ ?_
        have e := kd2_n hE (fun j j1 j2 => h5 j j1 (by omega))
        exact ⟨by rw [e], by unfold WoM; rw [e, if_pos rfl, if_pos rfl, if_pos rfl]⟩
    · refine Z_aload_n 20 rfl rfl rfl ?_
      refine Z_iload_n 21 rfl rfl rfl ?_
      refine Z_iload_n 22 rfl rfl rfl ?_
      refine Z_callVbp (M' := M_M_isWord) 23 isM rfl l_M_340 C_M_isWord (c_M_isWord l p he fa li sl be ov av bl kw sm h k n ma mf mw cj (by omega) (by omega) hm.1 (fun i i1 i2 => hE.2.1 (ma + i) (by omega) (by omega))) (emM ..) (Or.inl ⟨_, _, _, _, rfl, rfl⟩) rfl rfl rfl (Nat.le_of_ble_eq_true rfl) ⟨rfl, rfl, Nat.le_of_ble_eq_true rfl, Nat.le_of_ble_eq_true rfl⟩ ⟨Nat.zero_le _, Nat.zero_le _⟩ ?_
      refine Z_ifb_ne 24 rfl (tgt := 50) rfl (fun c44 => ?_) (fun c44 => ?_)
      · refine Z_aload_n 26 rfl rfl rfl ?_
        refine Z_dup 27 rfl rfl ?_
        refine Z_get 28 rfl f_M_327 rfl rfl ?_
        refine Z_iload_n 29 rfl rfl rfl ?_
        refine Z_iadd 30 rfl ?_
        refine Z_put 31 rfl f_M_327 rfl (Nat.le_of_ble_eq_true rfl) (fun _ => ⟨rfl, rfl⟩) (fs' := []) (mem' := eM p he fa li sl be ov av bl kw sm (ma + n) mf mw cj) rfl ?_
        refine Z_iload_n 32 rfl rfl rfl ?_
        refine Z_iret 33 rfl rfl ⟨Nat.le_refl _, Nat.le_refl _⟩ ?_
        have e := kd2_y hE ⟨h2, by omega, c44⟩ h5
        exact ⟨by rw [e], by unfold WoM; rw [e, if_neg (by omega), if_neg (by omega), if_neg (by omega), wE_eq hE]⟩
      · refine Z_goto 25 rfl (tgt := 62) rfl ?_
        refine Z_iinc 34 rfl rfl (Nat.le_of_ble_eq_true rfl) (lv' := [(2, .int _), (0, .ref _), (1, .int _)]) rfl ?_
        refine Z_goto 35 rfl (tgt := 33) rfl ?_
        refine Z_pick [0, 1, 2] (lv' := [(0, .ref _), (1, .int _), (2, .int _)]) rfl ?_
        exact ih (k + 1) (by omega) (by omega) (by omega) (fun j j1 j2 => by
          by_cases e : j = k
          · rw [e]; exact c44
          · exact h5 j j1 (by omega))
theorem lp_M_wordRead (h : MV p) (ma mf mw : Int) (cj : TT) (hf : inI mf) (hm : 0 ≤ ma ∧ ma ≤ p.ts) : ∀ (d : Nat) (n : Int), 0 ≤ n → ma + n ≤ p.ts → p.ts - ma - n < d → (∀ k, ma ≤ k → k < ma + n → isL (bt p.tb p.ts k)) → Z (l, M_M_wordRead, R_M_wordRead, (0, 0), false, zAi (kd2 p.tb p.ts ma) (WoM p he fa li sl be ov av bl kw sm ma mf mw cj)) 0 0 (eM p he fa li sl be ov av bl kw sm ma mf mw cj) 2 [(0, .ref 0), (1, .int (iI n))] [] := by
  have hts := h.2.2.2.2.2.1
  intro d
  induction d with
  | zero => intro n h2 h3 h4; omega
  | succ d ih =>
    intro n h2 h3 h4 h5
    have hbb := bt_bd h.2.2.2.2.1 p.ts (ma + n)
    have hbn : isL (bt p.tb p.ts (ma + n)) → ma + n < p.ts := fun z => by
      unfold bt at z
      split at z
      · assumption
      · omega
    refine Z_aload_n 2 rfl rfl rfl ?_
    refine Z_aload_n 3 rfl rfl rfl ?_
    refine Z_get 4 rfl f_M_327 rfl rfl ?_
    refine Z_iload_n 5 rfl rfl rfl ?_
    refine Z_iadd 6 rfl ?_
    refine Z_callVip (M' := M_M_byteAt) 7 isM rfl l_M_316 C_M_byteAt (c_M_byteAt l p he fa li sl be ov av bl kw sm h (ma + n) ma mf mw cj (by omega)) (emM ..) (Or.inl ⟨_, _, _, _, rfl, rfl⟩) rfl rfl rfl (Nat.le_of_ble_eq_true rfl) ⟨rfl, rfl, Nat.le_of_ble_eq_true rfl, Nat.le_of_ble_eq_true rfl⟩ ⟨Nat.zero_le _, Nat.zero_le _⟩ ?_
    refine Z_i2l 8 rfl (by omega) ?_
    refine Z_ldc2 9 rfl k_M_336 (c := 97) rfl ?_
    refine Z_ldc2 10 rfl k_M_338 (c := 122) rfl ?_
    refine Z_callSbp (M' := M_M_in) 11 [] rfl l_M_80 C_M_in (c_M_in l _ _ _ (by omega) (by omega) (by omega)) ⟨List.nodup_nil, zEL.n⟩ rfl rfl rfl (Nat.le_of_ble_eq_true rfl) ⟨rfl, rfl, Nat.le_of_ble_eq_true rfl, Nat.le_of_ble_eq_true rfl⟩ ⟨Nat.zero_le _, Nat.zero_le _⟩ ?_
    refine Z_ifb_eq 12 rfl (tgt := 31) rfl (fun c22 => ?_) (fun c22 => ?_)
    · refine Z_iconst 15 rfl ?_
      refine Z_istore_n 16 rfl rfl (Nat.le_of_ble_eq_true rfl) (lv' := [(2, .int _), (0, .ref _), (1, .int _)]) rfl ?_
      refine Z_pick [0, 1, 2] (lv' := [(0, .ref _), (1, .int _), (2, .int _)]) rfl ?_
      exact lp2_M_wordRead l p he fa li sl be ov av bl kw sm h n ma mf mw cj hf hm h2 ⟨by omega, h5, c22⟩ 7 0 (by omega) (by omega) (by omega) (fun j j1 j2 => by omega)
    · refine Z_iinc 13 rfl rfl (Nat.le_of_ble_eq_true rfl) (lv' := [(1, .int _), (0, .ref _)]) rfl ?_
      refine Z_goto 14 rfl (tgt := 2) rfl ?_
      refine Z_pick [0, 1] (lv' := [(0, .ref _), (1, .int _)]) rfl ?_
      have := hbn c22
      exact ih (n + 1) (by omega) (by omega) (by omega) (fun k k1 k2 => by
        by_cases e : k = ma + n
        · rw [e]; exact c22
        · exact h5 k k1 (by omega))
theorem c_M_wordRead (h : MV p) (ma mf mw : Int) (cj : TT) (hf : inI mf) (hm : 0 ≤ ma ∧ ma ≤ p.ts) : Con l M_M_wordRead R_M_wordRead 0 0 false [.ref 0] (eM p he fa li sl be ov av bl kw sm ma mf mw cj) (zAi (kd2 p.tb p.ts ma) (WoM p he fa li sl be ov av bl kw sm ma mf mw cj)) := by
  have hts := h.2.2.2.2.2.1
  refine Con.of_Z (by decide) D_M_wordRead (Nat.le_of_ble_eq_true rfl) ?_
  refine Z_iconst 0 rfl ?_
  refine Z_istore_n 1 rfl rfl (Nat.le_of_ble_eq_true rfl) (lv' := [(1, .int _), (0, .ref _)]) rfl ?_
  refine Z_pick [0, 1] (lv' := [(0, .ref _), (1, .int _)]) rfl ?_
  exact lp_M_wordRead l p he fa li sl be ov av bl kw sm h ma mf mw cj hf hm 121 0 (by omega) (by omega) (by omega) (fun k k1 k2 => by omega)
end M11
