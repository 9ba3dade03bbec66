/-! Walk: angle, index, begin, base, u, whether closed -/
abbrev WW : Type := Int × Int × Int × Int × Int × Int
def oK6 (a i b c u d : Int) : zE := zO 6 [.int (iI a), .int (iI i), .int (iI b), .int (iI c), .int (iI u), .int (iI d)]
def oK (w : WW) : zE := zO 6 [.int (iI w.1), .int (iI w.2.1), .int (iI w.2.2.1), .int (iI w.2.2.2.1), .int (iI w.2.2.2.2.1), .int (iI w.2.2.2.2.2)]
def oS (s : SS) : zE := zO 4 [.long (lI s.1), .long (lI s.2.1), .long (lI s.2.2.1), .long (lI s.2.2.2.1), .long (lI s.2.2.2.2)]
def eTS (t : TT) (s : SS) : List zE := [zO 5 [.ref 1, .ref 2, .ref 3, .int (iI t.2.2.2)], aI 12 t.1, aI 12 t.2.1, aI 12 t.2.2.1, oS s]
def eK (w : WW) (t : TT) (s : SS) : List zE := [oK w, zO 5 [.ref 2, .ref 3, .ref 4, .int (iI t.2.2.2)], aI 12 t.1, aI 12 t.2.1, aI 12 t.2.2.1, oS s]
def eKT (w : WW) (t : TT) : List zE := [oK w, zO 5 [.ref 2, .ref 3, .ref 4, .int (iI t.2.2.2)], aI 12 t.1, aI 12 t.2.1, aI 12 t.2.2.1]
/-- a train as it may be -/
def TV (t : TT) : Prop := TB t ∧ tot t ≤ 360 ∧ ∀ k, 0 ≤ k → k < t.2.2.2 → mb (t.1 k) (t.2.1 k) (t.2.2.1 k)
/-- the spot so far in a piece -/
def pl (t : TT) (k u : Int) : SS := sd (t.1 k) (t.2.1 k) (t.2.2.1 k) (ah t k) u
theorem c_K_stand (l : Launch) (t : TT) (h : TB t) (s : SS) (k a u : Int) (hk : 0 ≤ k ∧ k < 12) (ha : inI a) (hu : inI u) : Con l M_K_stand R_K_stand 0 0 false [.ref 0, .ref 4, .int (iI k), .int (iI a), .int (iI u)] (eTS t s) (zAv (fun m => m = eTS t (sd (t.1 k) (t.2.1 k) (t.2.2.1 k) a u))) := by
  have b1 := h.2.1 k
  have b2 := h.2.2.1 k
  have b3 := h.2.2.2 k
  refine Con.of_Z (by decide) D_K_stand (Nat.le_of_ble_eq_true rfl) ?_
  refine Z_aload_n 0 rfl rfl rfl ?_
  refine Z_aload_n 1 rfl rfl rfl ?_
  refine Z_iload_n 2 rfl rfl rfl ?_
  refine Z_callVip (M' := M_T_kindOf) 3 [0, 1, 2, 3] rfl l_K_53 C_T_kindOf (c_T_kindOf l t k hk) ⟨by decide, (zEL.c (Or.inl rfl) (zEL.c (Or.inl rfl) (zEL.c (Or.inl rfl) (zEL.c (Or.inl rfl) zEL.n))))⟩ (Or.inl ⟨_, _, _, _, rfl, rfl⟩) rfl rfl rfl (Nat.le_of_ble_eq_true rfl) ⟨rfl, rfl, Nat.le_of_ble_eq_true rfl, Nat.le_of_ble_eq_true rfl⟩ ⟨Nat.zero_le _, Nat.zero_le _⟩ ?_
  refine Z_aload_n 4 rfl rfl rfl ?_
  refine Z_iload_n 5 rfl rfl rfl ?_
  refine Z_callVip (M' := M_T_longOf) 6 [0, 1, 2, 3] rfl l_K_42 C_T_longOf (c_T_longOf l t k hk) ⟨by decide, (zEL.c (Or.inl rfl) (zEL.c (Or.inl rfl) (zEL.c (Or.inl rfl) (zEL.c (Or.inl rfl) zEL.n))))⟩ (Or.inl ⟨_, _, _, _, rfl, rfl⟩) rfl rfl rfl (Nat.le_of_ble_eq_true rfl) ⟨rfl, rfl, Nat.le_of_ble_eq_true rfl, Nat.le_of_ble_eq_true rfl⟩ ⟨Nat.zero_le _, Nat.zero_le _⟩ ?_
  refine Z_i2l 7 rfl (by omega) ?_
  refine Z_aload_n 8 rfl rfl rfl ?_
  refine Z_iload_n 9 rfl rfl rfl ?_
  refine Z_callVip (M' := M_T_riseOf) 10 [0, 1, 2, 3] rfl l_K_38 C_T_riseOf (c_T_riseOf l t k hk) ⟨by decide, (zEL.c (Or.inl rfl) (zEL.c (Or.inl rfl) (zEL.c (Or.inl rfl) (zEL.c (Or.inl rfl) zEL.n))))⟩ (Or.inl ⟨_, _, _, _, rfl, rfl⟩) rfl rfl rfl (Nat.le_of_ble_eq_true rfl) ⟨rfl, rfl, Nat.le_of_ble_eq_true rfl, Nat.le_of_ble_eq_true rfl⟩ ⟨Nat.zero_le _, Nat.zero_le _⟩ ?_
  refine Z_i2l 11 rfl (by omega) ?_
  refine Z_iload_n 12 rfl rfl rfl ?_
  refine Z_i2l 13 rfl (by omega) ?_
  refine Z_iload 14 rfl rfl ?_
  refine Z_i2l 15 rfl (by omega) ?_
  refine Z_callVv (M' := M_S_stand) 16 [4] rfl l_K_56 C_S_stand (c_S_stand l s (t.1 k) (t.2.1 k) (t.2.2.1 k) a u (by omega)) ⟨by decide, (zEL.c (Or.inl rfl) zEL.n)⟩ (Or.inl ⟨_, _, _, _, rfl, rfl⟩) rfl rfl rfl (Nat.le_of_ble_eq_true rfl) ⟨rfl, rfl, Nat.le_of_ble_eq_true rfl, Nat.le_of_ble_eq_true rfl⟩ ⟨Nat.zero_le _, Nat.zero_le _⟩ (fun out hq => ?_)
  obtain rfl := hq
  refine Z_mem (show _ = eTS t (sd (t.1 k) (t.2.1 k) (t.2.2.1 k) a u) from rfl) ?_
  refine Z_vret 17 rfl rfl ⟨Nat.le_refl _, Nat.le_refl _⟩ ?_
  exact ⟨rfl, rfl⟩
noncomputable def wk0 (t : TT) : WW := (0, -bI (clo t), 0, 0, 0, bI (clo t))
theorem c_K_start (l : Launch) (t : TT) (h : TB t) (w : WW) : Con l M_K_start R_K_start 0 0 false [.ref 0, .ref 1] (eKT w t) (zAv (fun m => m = eKT (wk0 t) t)) := by
  have hb := bI_01 (clo t)
  refine Con.of_Z (by decide) D_K_start (Nat.le_of_ble_eq_true rfl) ?_
  refine Z_aload_n 0 rfl rfl rfl ?_
  refine Z_aload_n 1 rfl rfl rfl ?_
  refine Z_callVbp (M' := M_T_isClosed) 2 [1, 2, 3, 4] rfl l_K_29 C_T_isClosed (c_T_isClosed l t h) ⟨by decide, (zEL.c (Or.inl rfl) (zEL.c (Or.inl rfl) (zEL.c (Or.inl rfl) (zEL.c (Or.inl rfl) zEL.n))))⟩ (Or.inl ⟨_, _, _, _, rfl, rfl⟩) rfl rfl rfl (Nat.le_of_ble_eq_true rfl) ⟨rfl, rfl, Nat.le_of_ble_eq_true rfl, Nat.le_of_ble_eq_true rfl⟩ ⟨Nat.zero_le _, Nat.zero_le _⟩ ?_
  refine Z_put 3 rfl f_K_25 rfl (Nat.le_of_ble_eq_true rfl) (fun _ => ⟨bI_nar _, bI_fit _⟩) (fs' := []) (mem' := eKT (w.1, w.2.1, w.2.2.1, w.2.2.2.1, w.2.2.2.2.1, bI (clo t)) t) rfl ?_
  refine Z_aload_n 4 rfl rfl rfl ?_
  refine Z_aload_n 5 rfl rfl rfl ?_
  refine Z_get 6 rfl f_K_25 rfl rfl ?_
  refine Z_ifb_eq 7 rfl (tgt := 20) rfl (fun c13 => ?_) (fun c13 => ?_)
  · refine Z_iconst 10 rfl ?_
    refine Z_ci (show _ = -bI (clo t) by first | (rw [bI_t c13] <;> rfl) | (rw [bI_f c13] <;> rfl)) ?_
    refine Z_put 11 rfl f_K_13 rfl (Nat.le_of_ble_eq_true rfl) (fun _ => ⟨rfl, rfl⟩) (fs' := []) (mem' := eKT (w.1, -bI (clo t), w.2.2.1, w.2.2.2.1, w.2.2.2.2.1, bI (clo t)) t) rfl ?_
    refine Z_aload_n 12 rfl rfl rfl ?_
    refine Z_iconst 13 rfl ?_
    refine Z_put 14 rfl f_K_7 rfl (Nat.le_of_ble_eq_true rfl) (fun _ => ⟨rfl, rfl⟩) (fs' := []) (mem' := eKT (0, -bI (clo t), w.2.2.1, w.2.2.2.1, w.2.2.2.2.1, bI (clo t)) t) rfl ?_
    refine Z_aload_n 15 rfl rfl rfl ?_
    refine Z_iconst 16 rfl ?_
    refine Z_put 17 rfl f_K_16 rfl (Nat.le_of_ble_eq_true rfl) (fun _ => ⟨rfl, rfl⟩) (fs' := []) (mem' := eKT (0, -bI (clo t), 0, w.2.2.2.1, w.2.2.2.2.1, bI (clo t)) t) rfl ?_
    refine Z_aload_n 18 rfl rfl rfl ?_
    refine Z_iconst 19 rfl ?_
    refine Z_put 20 rfl f_K_19 rfl (Nat.le_of_ble_eq_true rfl) (fun _ => ⟨rfl, rfl⟩) (fs' := []) (mem' := eKT (0, -bI (clo t), 0, 0, w.2.2.2.2.1, bI (clo t)) t) rfl ?_
    refine Z_aload_n 21 rfl rfl rfl ?_
    refine Z_iconst 22 rfl ?_
    refine Z_put 23 rfl f_K_22 rfl (Nat.le_of_ble_eq_true rfl) (fun _ => ⟨rfl, rfl⟩) (fs' := []) (mem' := eKT (wk0 t) t) rfl ?_
    refine Z_vret 24 rfl rfl ⟨Nat.le_refl _, Nat.le_refl _⟩ ?_
    exact ⟨rfl, rfl⟩
  · refine Z_iconst 8 rfl ?_
    refine Z_goto 9 rfl (tgt := 21) rfl ?_
    refine Z_ci (show _ = -bI (clo t) by first | (rw [bI_t c13] <;> rfl) | (rw [bI_f c13] <;> rfl)) ?_
    refine Z_put 11 rfl f_K_13 rfl (Nat.le_of_ble_eq_true rfl) (fun _ => ⟨rfl, rfl⟩) (fs' := []) (mem' := eKT (w.1, -bI (clo t), w.2.2.1, w.2.2.2.1, w.2.2.2.2.1, bI (clo t)) t) rfl ?_
    refine Z_aload_n 12 rfl rfl rfl ?_
    refine Z_iconst 13 rfl ?_
    refine Z_put 14 rfl f_K_7 rfl (Nat.le_of_ble_eq_true rfl) (fun _ => ⟨rfl, rfl⟩) (fs' := []) (mem' := eKT (0, -bI (clo t), w.2.2.1, w.2.2.2.1, w.2.2.2.2.1, bI (clo t)) t) rfl ?_
    refine Z_aload_n 15 rfl rfl rfl ?_
    refine Z_iconst 16 rfl ?_
    refine Z_put 17 rfl f_K_16 rfl (Nat.le_of_ble_eq_true rfl) (fun _ => ⟨rfl, rfl⟩) (fs' := []) (mem' := eKT (0, -bI (clo t), 0, w.2.2.2.1, w.2.2.2.2.1, bI (clo t)) t) rfl ?_
    refine Z_aload_n 18 rfl rfl rfl ?_
    refine Z_iconst 19 rfl ?_
    refine Z_put 20 rfl f_K_19 rfl (Nat.le_of_ble_eq_true rfl) (fun _ => ⟨rfl, rfl⟩) (fs' := []) (mem' := eKT (0, -bI (clo t), 0, 0, w.2.2.2.2.1, bI (clo t)) t) rfl ?_
    refine Z_aload_n 21 rfl rfl rfl ?_
    refine Z_iconst 22 rfl ?_
    refine Z_put 23 rfl f_K_22 rfl (Nat.le_of_ble_eq_true rfl) (fun _ => ⟨rfl, rfl⟩) (fs' := []) (mem' := eKT (wk0 t) t) rfl ?_
    refine Z_vret 24 rfl rfl ⟨Nat.le_refl _, Nat.le_refl _⟩ ?_
    exact ⟨rfl, rfl⟩
def stp1 (w : WW) (n r : Int) : WW := if w.2.2.2.2.1 + 1 ≤ n then (w.1, w.2.1, w.2.2.1, w.2.2.2.1, w.2.2.2.2.1 + 1, w.2.2.2.2.2) else (w.1, w.2.1 + 1, w.2.2.1 + n, w.2.2.2.1 + r, 0, w.2.2.2.2.2)
theorem c_K_stepOn (l : Launch) (w : WW) (n r : Int) (hu : 0 ≤ w.2.2.2.2.1 ∧ w.2.2.2.2.1 ≤ 1000) (hn : inI n) : Con l M_K_stepOn R_K_stepOn 0 0 false [.ref 0, .int (iI n), .int (iI r)] [oK w] (zAv (fun m => m = [oK (stp1 w n r)])) := by
  refine Con.of_Z (by decide) D_K_stepOn (Nat.le_of_ble_eq_true rfl) ?_
  refine Z_aload_n 0 rfl rfl rfl ?_
  refine Z_dup 1 rfl rfl ?_
  refine Z_get 2 rfl f_K_22 rfl rfl ?_
  refine Z_iconst 3 rfl ?_
  refine Z_iadd 4 rfl ?_
  refine Z_put 5 rfl f_K_22 rfl (Nat.le_of_ble_eq_true rfl) (fun _ => ⟨rfl, rfl⟩) (fs' := []) (mem' := [oK6 w.1 w.2.1 w.2.2.1 w.2.2.2.1 (w.2.2.2.2.1 + 1) w.2.2.2.2.2]) rfl ?_
  refine Z_aload_n 6 rfl rfl rfl ?_
  refine Z_get 7 rfl f_K_22 rfl rfl ?_
  refine Z_iload_n 8 rfl rfl rfl ?_
  refine Z_icmp_gt 9 rfl (tgt := 19) rfl (by omega) (by omega) (fun c15 => ?_) (fun c15 => ?_)
  · refine Z_aload_n 11 rfl rfl rfl ?_
    refine Z_iconst 12 rfl ?_
    refine Z_put 13 rfl f_K_22 rfl (Nat.le_of_ble_eq_true rfl) (fun _ => ⟨rfl, rfl⟩) (fs' := []) (mem' := [oK6 w.1 w.2.1 w.2.2.1 w.2.2.2.1 0 w.2.2.2.2.2]) rfl ?_
    refine Z_aload_n 14 rfl rfl rfl ?_
    refine Z_dup 15 rfl rfl ?_
    refine Z_get 16 rfl f_K_16 rfl rfl ?_
    refine Z_iload_n 17 rfl rfl rfl ?_
    refine Z_iadd 18 rfl ?_
    refine Z_put 19 rfl f_K_16 rfl (Nat.le_of_ble_eq_true rfl) (fun _ => ⟨rfl, rfl⟩) (fs' := []) (mem' := [oK6 w.1 w.2.1 (w.2.2.1 + n) w.2.2.2.1 0 w.2.2.2.2.2]) rfl ?_
    refine Z_aload_n 20 rfl rfl rfl ?_
    refine Z_dup 21 rfl rfl ?_
    refine Z_get 22 rfl f_K_19 rfl rfl ?_
    refine Z_iload_n 23 rfl rfl rfl ?_
    refine Z_iadd 24 rfl ?_
    refine Z_put 25 rfl f_K_19 rfl (Nat.le_of_ble_eq_true rfl) (fun _ => ⟨rfl, rfl⟩) (fs' := []) (mem' := [oK6 w.1 w.2.1 (w.2.2.1 + n) (w.2.2.2.1 + r) 0 w.2.2.2.2.2]) rfl ?_
    refine Z_aload_n 26 rfl rfl rfl ?_
    refine Z_dup 27 rfl rfl ?_
    refine Z_get 28 rfl f_K_13 rfl rfl ?_
    refine Z_iconst 29 rfl ?_
    refine Z_iadd 30 rfl ?_
    refine Z_put 31 rfl f_K_13 rfl (Nat.le_of_ble_eq_true rfl) (fun _ => ⟨rfl, rfl⟩) (fs' := []) (mem' := [oK6 w.1 (w.2.1 + 1) (w.2.2.1 + n) (w.2.2.2.1 + r) 0 w.2.2.2.2.2]) rfl ?_
    refine Z_vret 32 rfl rfl ⟨Nat.le_refl _, Nat.le_refl _⟩ ?_
    exact ⟨rfl, by unfold stp1; rw [if_neg (by omega)] <;> rfl⟩
  · refine Z_vret 10 rfl rfl ⟨Nat.le_refl _, Nat.le_refl _⟩ ?_
    exact ⟨rfl, by unfold stp1; rw [if_pos (by omega)] <;> rfl⟩
/-- the next place of the walk, and the spot there -/
def nx (t : TT) (w : WW) : WW :=
  if w.2.1 < 0 then (w.1, 0, w.2.2.1, w.2.2.2.1, w.2.2.2.2.1, w.2.2.2.2.2)
  else if w.2.1 < t.2.2.2 then stp1 (w.2.2.1 + w.2.2.2.2.1, w.2.1, w.2.2.1, w.2.2.2.1, w.2.2.2.2.1, w.2.2.2.2.2) (t.2.1 w.2.1) (t.2.2.1 w.2.1)
  else if w.2.2.2.2.2 = 1 ∧ w.2.1 ≤ t.2.2.2 then (w.1, w.2.1 + 1, w.2.2.1, w.2.2.2.1, w.2.2.2.2.1, w.2.2.2.2.2)
  else w
def nsp (t : TT) (w : WW) (s : SS) : SS :=
  if w.2.1 < 0 then sd (t.1 (t.2.2.2 - 1)) (t.2.1 (t.2.2.2 - 1)) (t.2.2.1 (t.2.2.2 - 1)) (-t.2.2.1 (t.2.2.2 - 1)) (t.2.1 (t.2.2.2 - 1))
  else if w.2.1 < t.2.2.2 then sd (t.1 w.2.1) (t.2.1 w.2.1) (t.2.2.1 w.2.1) w.2.2.2.1 w.2.2.2.2.1
  else if w.2.2.2.2.2 = 1 ∧ w.2.1 ≤ t.2.2.2 then sd (t.1 0) (t.2.1 0) (t.2.2.1 0) 0 0
  else s
def mo (t : TT) (w : WW) : Prop := w.2.1 < t.2.2.2 ∨ (w.2.2.2.2.2 = 1 ∧ w.2.1 ≤ t.2.2.2)
/-- where a walk may stand, behind so many visits -/
def Jw (t : TT) (w : WW) (i : Int) : Prop :=
  ((w.2.2.2.2.2 = 1 ∧ clo t ∧ 0 < t.2.2.2) ∨ (w.2.2.2.2.2 = 0 ∧ ¬ clo t)) ∧
  ((w.2.1 = -1 ∧ w.2.2.2.2.2 = 1 ∧ w.1 = 0 ∧ w.2.2.1 = 0 ∧ w.2.2.2.1 = 0 ∧ w.2.2.2.2.1 = 0 ∧ i = 0)
  ∨ (0 ≤ w.2.1 ∧ w.2.1 < t.2.2.2 ∧ w.2.2.1 = bg t w.2.1 ∧ w.2.2.2.1 = ah t w.2.1 ∧ 0 ≤ w.2.2.2.2.1 ∧ w.2.2.2.2.1 ≤ t.2.1 w.2.1 ∧ i = w.2.2.2.2.2 + bg t w.2.1 + w.2.2.2.2.1 + w.2.1)
  ∨ (w.2.1 = t.2.2.2 ∧ w.2.2.1 = bg t t.2.2.2 ∧ w.2.2.2.1 = ah t t.2.2.2 ∧ w.2.2.2.2.1 = 0 ∧ w.1 = bg t t.2.2.2 ∧ i = w.2.2.2.2.2 + bg t t.2.2.2 + t.2.2.2)
  ∨ (w.2.1 = t.2.2.2 + 1 ∧ w.2.2.2.2.2 = 1 ∧ i = w.2.2.2.2.2 + bg t t.2.2.2 + t.2.2.2 + 1))
theorem bg_s (t : TT) {k : Int} (h : 0 ≤ k) : bg t (k + 1) = bg t k + t.2.1 k := sI_s _ h
theorem ah_s (t : TT) {k : Int} (h : 0 ≤ k) : ah t (k + 1) = ah t k + t.2.2.1 k := sI_s _ h
theorem bg_0 (t : TT) : bg t 0 = 0 := rfl
theorem ah_0 (t : TT) : ah t 0 = 0 := rfl
theorem bg_mono' {t : TT} (h : TB t) (j : Int) (h0 : 0 ≤ j) : ∀ d : Nat, bg t j ≤ bg t (j + d) := by
  intro d
  induction d with
  | zero => simp
  | succ d ih =>
    have := h.2.2.1 (j + d)
    rw [show j + ((d + 1 : Nat) : Int) = (j + d) + 1 by omega, bg_s t (by omega)]
    omega
theorem bg_mono {t : TT} (h : TB t) {j k : Int} (h0 : 0 ≤ j) (h1 : j ≤ k) : bg t j ≤ bg t k := by
  have := bg_mono' h j h0 (k - j).toNat
  rw [show j + ((k - j).toNat : Int) = k by omega] at this
  exact this
theorem clo_n {t : TT} (h : TV t) (hc : clo t) : 0 < t.2.2.2 := by
  have h1 := h.1.1
  rcases Int.lt_or_le 0 t.2.2.2 with h2 | h2
  · exact h2
  · exfalso
    have e : t.2.2.2 = 0 := by omega
    have := hc.1
    unfold tot at this
    rw [e] at this
    have e2 : sI t.2.1 0 = 0 := rfl
    omega
theorem Jw_0 {t : TT} (h : TV t) : Jw t (wk0 t) 0 := by
  have h1 := h.1.1
  unfold Jw wk0
  by_cases hc : clo t
  · have := clo_n h hc
    rw [bI_t hc]
    refine ⟨Or.inl ⟨rfl, hc, this⟩, Or.inl ⟨rfl, rfl, rfl, rfl, rfl, rfl, rfl⟩⟩
  · rw [bI_f hc]
    refine ⟨Or.inr ⟨rfl, hc⟩, Or.inr ?_⟩
    by_cases h2 : 0 < t.2.2.2
    · have := h.1.2.2.1 0
      refine Or.inl ⟨Int.le_refl _, h2, rfl, rfl, Int.le_refl _, this.1, rfl⟩
    · refine Or.inr (Or.inl ?_)
      have e : t.2.2.2 = 0 := by omega
      rw [e]
      exact ⟨rfl, rfl, rfl, rfl, rfl, rfl⟩
theorem Jw_bd {t : TT} {w : WW} {i : Int} (h : TV t) (hJ : Jw t w i) : 0 ≤ i ∧ i ≤ 374 ∧ -1 ≤ w.2.1 ∧ w.2.1 ≤ t.2.2.2 + 1 := by
  have h1 := h.1.1
  have h2 := h.2.1
  have hc : w.2.2.2.2.2 = 1 ∨ w.2.2.2.2.2 = 0 := hJ.1.imp And.left And.left
  unfold tot at h2
  rcases hJ.2 with a | a | a | a
  · omega
  · have b1 := bg_mono h.1 (show 0 ≤ w.2.1 + 1 by omega) (show w.2.1 + 1 ≤ t.2.2.2 by omega)
    have b2 := bg_mono h.1 (Int.le_refl 0) (show 0 ≤ w.2.1 by omega)
    rw [bg_s t a.1] at b1
    rw [bg_0] at b2
    have b3 : bg t t.2.2.2 ≤ 360 := h2
    omega
  · have b3 : bg t t.2.2.2 ≤ 360 := h2
    have b2 := bg_mono h.1 (Int.le_refl 0) h1.1
    rw [bg_0] at b2
    omega
  · have b3 : bg t t.2.2.2 ≤ 360 := h2
    have b2 := bg_mono h.1 (Int.le_refl 0) h1.1
    rw [bg_0] at b2
    omega
theorem Jw_s {t : TT} {w : WW} {i : Int} (h : TV t) (hJ : Jw t w i) (hm : mo t w) : Jw t (nx t w) (i + 1) := by
  have h1 := h.1.1
  obtain ⟨hc, hJ⟩ := hJ
  unfold mo at hm
  rcases hJ with a | a | a | a
  · unfold nx
    rw [if_pos (by omega)]
    refine ⟨hc, Or.inr (Or.inl ?_)⟩
    have b := h.1.2.2.1 0
    show (0 : Int) ≤ 0 ∧ 0 < t.2.2.2 ∧ w.2.2.1 = bg t 0 ∧ w.2.2.2.1 = ah t 0 ∧ 0 ≤ w.2.2.2.2.1 ∧ w.2.2.2.2.1 ≤ t.2.1 0 ∧ i + 1 = w.2.2.2.2.2 + bg t 0 + w.2.2.2.2.1 + 0
    rw [bg_0, ah_0]
    omega
  · unfold nx stp1
    rw [if_neg (by omega), if_pos (by omega)]
    have b := bg_s t a.1
    have b' := ah_s t a.1
    by_cases c : w.2.2.2.2.1 + 1 ≤ t.2.1 w.2.1
    · rw [if_pos c]
      refine ⟨hc, Or.inr (Or.inl ?_)⟩
      show 0 ≤ w.2.1 ∧ w.2.1 < t.2.2.2 ∧ w.2.2.1 = bg t w.2.1 ∧ w.2.2.2.1 = ah t w.2.1 ∧ 0 ≤ w.2.2.2.2.1 + 1 ∧ w.2.2.2.2.1 + 1 ≤ t.2.1 w.2.1 ∧ i + 1 = w.2.2.2.2.2 + bg t w.2.1 + (w.2.2.2.2.1 + 1) + w.2.1
      omega
    · rw [if_neg c]
      by_cases d : w.2.1 + 1 < t.2.2.2
      · refine ⟨hc, Or.inr (Or.inl ?_)⟩
        have b2 := h.1.2.2.1 (w.2.1 + 1)
        show 0 ≤ w.2.1 + 1 ∧ w.2.1 + 1 < t.2.2.2 ∧ w.2.2.1 + t.2.1 w.2.1 = bg t (w.2.1 + 1) ∧ w.2.2.2.1 + t.2.2.1 w.2.1 = ah t (w.2.1 + 1) ∧ (0 : Int) ≤ 0 ∧ 0 ≤ t.2.1 (w.2.1 + 1) ∧ i + 1 = w.2.2.2.2.2 + bg t (w.2.1 + 1) + 0 + (w.2.1 + 1)
        omega
      · have e : w.2.1 + 1 = t.2.2.2 := by omega
        refine ⟨hc, Or.inr (Or.inr (Or.inl ?_))⟩
        rw [e] at b b'
        show w.2.1 + 1 = t.2.2.2 ∧ w.2.2.1 + t.2.1 w.2.1 = bg t t.2.2.2 ∧ w.2.2.2.1 + t.2.2.1 w.2.1 = ah t t.2.2.2 ∧ (0 : Int) = 0 ∧ w.2.2.1 + w.2.2.2.2.1 = bg t t.2.2.2 ∧ i + 1 = w.2.2.2.2.2 + bg t t.2.2.2 + t.2.2.2
        omega
  · unfold nx
    rw [if_neg (by omega), if_neg (by omega), if_pos (by omega)]
    refine ⟨hc, Or.inr (Or.inr (Or.inr ?_))⟩
    show w.2.1 + 1 = t.2.2.2 + 1 ∧ w.2.2.2.2.2 = 1 ∧ i + 1 = w.2.2.2.2.2 + bg t t.2.2.2 + t.2.2.2 + 1
    omega
  · exfalso
    omega
theorem c_K_goOn (l : Launch) (t : TT) (h : TV t) (s : SS) (w : WW) (i : Int) (hJ : Jw t w i) : Con l M_K_goOn R_K_goOn 0 0 false [.ref 0, .ref 1, .ref 5] (eK w t s) (zAb (mo t w) (fun m => m = eK (nx t w) t (nsp t w s))) := by
  have h1 := h.1.1
  have hb := Jw_bd h hJ
  obtain ⟨hc, hJ⟩ := hJ
  have hb2 : 0 ≤ w.2.1 → w.2.1 < t.2.2.2 → (-4320 ≤ bg t w.2.1 ∧ bg t w.2.1 ≤ 4320) ∧ (-1188 ≤ ah t w.2.1 ∧ ah t w.2.1 ≤ 1188) := fun z z2 => ⟨bg_bd h.1 (by omega), ah_bd h.1 (by omega)⟩
  have hl := fun k => h.1.2.2.1 k
  have hr := fun k => h.1.2.2.2 k
  refine Con.of_Z (by decide) D_K_goOn (Nat.le_of_ble_eq_true rfl) ?_
  refine Z_aload_n 0 rfl rfl rfl ?_
  refine Z_get 1 rfl f_K_13 rfl rfl ?_
  refine Z_if_ge 2 rfl (tgt := 38) rfl (by omega) (fun c4 => ?_) (fun c4 => ?_)
  · refine Z_aload_n 24 rfl rfl rfl ?_
    refine Z_get 25 rfl f_K_13 rfl rfl ?_
    refine Z_aload_n 26 rfl rfl rfl ?_
    refine Z_callVip (M' := M_T_size) 27 [1, 2, 3, 4] rfl l_K_34 C_T_size (c_T_size l t) ⟨by decide, (zEL.c (Or.inl rfl) (zEL.c (Or.inl rfl) (zEL.c (Or.inl rfl) (zEL.c (Or.inl rfl) zEL.n))))⟩ (Or.inl ⟨_, _, _, _, rfl, rfl⟩) rfl rfl rfl (Nat.le_of_ble_eq_true rfl) ⟨rfl, rfl, Nat.le_of_ble_eq_true rfl, Nat.le_of_ble_eq_true rfl⟩ ⟨Nat.zero_le _, Nat.zero_le _⟩ ?_
    refine Z_icmp_ge 28 rfl (tgt := 101) rfl (by omega) (by omega) (fun c46 => ?_) (fun c46 => ?_)
    · refine Z_aload_n 57 rfl rfl rfl ?_
      refine Z_get 58 rfl f_K_25 rfl rfl ?_
      refine Z_if_eq 59 rfl (tgt := 119) rfl (by omega) (fun c105 => ?_) (fun c105 => ?_)
      · refine Z_iconst 65 rfl ?_
        refine Z_zret 66 rfl rfl rfl ⟨Nat.le_refl _, Nat.le_refl _⟩ ?_
        exact ⟨bF (by unfold mo; omega), by unfold nx nsp; rw [if_neg (by omega), if_neg (by omega), if_neg (by omega), if_neg (by omega), if_neg (by omega), if_neg (by omega)]⟩
      · refine Z_aload_n 60 rfl rfl rfl ?_
        refine Z_get 61 rfl f_K_13 rfl rfl ?_
        refine Z_aload_n 62 rfl rfl rfl ?_
        refine Z_callVip (M' := M_T_size) 63 [1, 2, 3, 4] rfl l_K_34 C_T_size (c_T_size l t) ⟨by decide, (zEL.c (Or.inl rfl) (zEL.c (Or.inl rfl) (zEL.c (Or.inl rfl) (zEL.c (Or.inl rfl) zEL.n))))⟩ (Or.inl ⟨_, _, _, _, rfl, rfl⟩) rfl rfl rfl (Nat.le_of_ble_eq_true rfl) ⟨rfl, rfl, Nat.le_of_ble_eq_true rfl, Nat.le_of_ble_eq_true rfl⟩ ⟨Nat.zero_le _, Nat.zero_le _⟩ ?_
        refine Z_icmp_le 64 rfl (tgt := 121) rfl (by omega) (by omega) (fun c116 => ?_) (fun c116 => ?_)
        · refine Z_aload_n 67 rfl rfl rfl ?_
          refine Z_aload_n 68 rfl rfl rfl ?_
          refine Z_iconst 69 rfl ?_
          refine Z_iconst 70 rfl ?_
          refine Z_iconst 71 rfl ?_
          refine Z_callSv (M' := M_K_stand) 72 [1, 2, 3, 4, 5] rfl l_K_45 C_K_stand (c_K_stand l t h.1 s 0 0 0 (by omega) (by omega) (by omega)) ⟨by decide, (zEL.c (Or.inl rfl) (zEL.c (Or.inl rfl) (zEL.c (Or.inl rfl) (zEL.c (Or.inl rfl) (zEL.c (Or.inl rfl) zEL.n)))))⟩ rfl rfl rfl (Nat.le_of_ble_eq_true rfl) ⟨rfl, rfl, Nat.le_of_ble_eq_true rfl, Nat.le_of_ble_eq_true rfl⟩ ⟨Nat.zero_le _, Nat.zero_le _⟩ (fun out hq => ?_)
          obtain rfl := hq
          refine Z_mem (show _ = eK w t (nsp t w s) by unfold nsp; rw [if_neg (by omega), if_neg (by omega), if_pos (by omega)]; rfl) ?_
          refine Z_aload_n 73 rfl rfl rfl ?_
          refine Z_dup 74 rfl rfl ?_
          refine Z_get 75 rfl f_K_13 rfl rfl ?_
          refine Z_iconst 76 rfl ?_
          refine Z_iadd 77 rfl ?_
          refine Z_put 78 rfl f_K_13 rfl (Nat.le_of_ble_eq_true rfl) (fun _ => ⟨rfl, rfl⟩) (fs' := []) (mem' := eK (w.1, w.2.1 + 1, w.2.2.1, w.2.2.2.1, w.2.2.2.2.1, w.2.2.2.2.2) t (nsp t w s)) rfl ?_
          refine Z_iconst 79 rfl ?_
          refine Z_zret 80 rfl rfl rfl ⟨Nat.le_refl _, Nat.le_refl _⟩ ?_
          exact ⟨bT (by unfold mo; omega), by unfold nx; rw [if_neg (by omega), if_neg (by omega), if_pos (by omega)]⟩
        · refine Z_iconst 65 rfl ?_
          refine Z_zret 66 rfl rfl rfl ⟨Nat.le_refl _, Nat.le_refl _⟩ ?_
          exact ⟨bF (by unfold mo; omega), by unfold nx nsp; rw [if_neg (by omega), if_neg (by omega), if_neg (by omega), if_neg (by omega), if_neg (by omega), if_neg (by omega)]⟩
    · refine Z_aload_n 29 rfl rfl rfl ?_
      refine Z_aload_n 30 rfl rfl rfl ?_
      refine Z_get 31 rfl f_K_16 rfl rfl ?_
      refine Z_aload_n 32 rfl rfl rfl ?_
      refine Z_get 33 rfl f_K_22 rfl rfl ?_
      refine Z_iadd 34 rfl ?_
      refine Z_put 35 rfl f_K_7 rfl (Nat.le_of_ble_eq_true rfl) (fun _ => ⟨rfl, rfl⟩) (fs' := []) (mem' := eK (w.2.2.1 + w.2.2.2.2.1, w.2.1, w.2.2.1, w.2.2.2.1, w.2.2.2.2.1, w.2.2.2.2.2) t s) rfl ?_
      refine Z_aload_n 36 rfl rfl rfl ?_
      refine Z_aload_n 37 rfl rfl rfl ?_
      refine Z_aload_n 38 rfl rfl rfl ?_
      refine Z_get 39 rfl f_K_13 rfl rfl ?_
      refine Z_aload_n 40 rfl rfl rfl ?_
      refine Z_get 41 rfl f_K_19 rfl rfl ?_
      refine Z_aload_n 42 rfl rfl rfl ?_
      refine Z_get 43 rfl f_K_22 rfl rfl ?_
      refine Z_callSv (M' := M_K_stand) 44 [1, 2, 3, 4, 5] rfl l_K_45 C_K_stand (c_K_stand l t h.1 s w.2.1 w.2.2.2.1 w.2.2.2.2.1 (by omega) (by omega) (by have := hl w.2.1; omega)) ⟨by decide, (zEL.c (Or.inl rfl) (zEL.c (Or.inl rfl) (zEL.c (Or.inl rfl) (zEL.c (Or.inl rfl) (zEL.c (Or.inl rfl) zEL.n)))))⟩ rfl rfl rfl (Nat.le_of_ble_eq_true rfl) ⟨rfl, rfl, Nat.le_of_ble_eq_true rfl, Nat.le_of_ble_eq_true rfl⟩ ⟨Nat.zero_le _, Nat.zero_le _⟩ (fun out hq => ?_)
      obtain rfl := hq
      refine Z_mem (show _ = eK (w.2.2.1 + w.2.2.2.2.1, w.2.1, w.2.2.1, w.2.2.2.1, w.2.2.2.2.1, w.2.2.2.2.2) t (nsp t w s) by unfold nsp; rw [if_neg (by omega), if_pos (by omega)]; rfl) ?_
      refine Z_aload_n 45 rfl rfl rfl ?_
      refine Z_aload_n 46 rfl rfl rfl ?_
      refine Z_aload_n 47 rfl rfl rfl ?_
      refine Z_get 48 rfl f_K_13 rfl rfl ?_
      refine Z_callVip (M' := M_T_longOf) 49 [1, 2, 3, 4] rfl l_K_42 C_T_longOf (c_T_longOf l t w.2.1 (by omega)) ⟨by decide, (zEL.c (Or.inl rfl) (zEL.c (Or.inl rfl) (zEL.c (Or.inl rfl) (zEL.c (Or.inl rfl) zEL.n))))⟩ (Or.inl ⟨_, _, _, _, rfl, rfl⟩) rfl rfl rfl (Nat.le_of_ble_eq_true rfl) ⟨rfl, rfl, Nat.le_of_ble_eq_true rfl, Nat.le_of_ble_eq_true rfl⟩ ⟨Nat.zero_le _, Nat.zero_le _⟩ ?_
      refine Z_aload_n 50 rfl rfl rfl ?_
      refine Z_aload_n 51 rfl rfl rfl ?_
      refine Z_get 52 rfl f_K_13 rfl rfl ?_
      refine Z_callVip (M' := M_T_riseOf) 53 [1, 2, 3, 4] rfl l_K_38 C_T_riseOf (c_T_riseOf l t w.2.1 (by omega)) ⟨by decide, (zEL.c (Or.inl rfl) (zEL.c (Or.inl rfl) (zEL.c (Or.inl rfl) (zEL.c (Or.inl rfl) zEL.n))))⟩ (Or.inl ⟨_, _, _, _, rfl, rfl⟩) rfl rfl rfl (Nat.le_of_ble_eq_true rfl) ⟨rfl, rfl, Nat.le_of_ble_eq_true rfl, Nat.le_of_ble_eq_true rfl⟩ ⟨Nat.zero_le _, Nat.zero_le _⟩ ?_
      refine Z_callVv (M' := M_K_stepOn) 54 [0] rfl l_K_49 C_K_stepOn (c_K_stepOn l (w.2.2.1 + w.2.2.2.2.1, w.2.1, w.2.2.1, w.2.2.2.1, w.2.2.2.2.1, w.2.2.2.2.2) (t.2.1 w.2.1) (t.2.2.1 w.2.1) (by have := hl w.2.1; show 0 ≤ w.2.2.2.2.1 ∧ w.2.2.2.2.1 ≤ 1000; omega) (by have := hl w.2.1; omega)) ⟨by decide, (zEL.c (Or.inl rfl) zEL.n)⟩ (Or.inl ⟨_, _, _, _, rfl, rfl⟩) rfl rfl rfl (Nat.le_of_ble_eq_true rfl) ⟨rfl, rfl, Nat.le_of_ble_eq_true rfl, Nat.le_of_ble_eq_true rfl⟩ ⟨Nat.zero_le _, Nat.zero_le _⟩ (fun out hq => ?_)
      obtain rfl := hq
      refine Z_mem (show _ = eK (nx t w) t (nsp t w s) by unfold nx; rw [if_neg (by omega), if_pos (by omega)]; rfl) ?_
      refine Z_iconst 55 rfl ?_
      refine Z_zret 56 rfl rfl rfl ⟨Nat.le_refl _, Nat.le_refl _⟩ ?_
      exact ⟨bT (by unfold mo; omega), rfl⟩
  · refine Z_aload_n 3 rfl rfl rfl ?_
    refine Z_callVip (M' := M_T_size) 4 [1, 2, 3, 4] rfl l_K_34 C_T_size (c_T_size l t) ⟨by decide, (zEL.c (Or.inl rfl) (zEL.c (Or.inl rfl) (zEL.c (Or.inl rfl) (zEL.c (Or.inl rfl) zEL.n))))⟩ (Or.inl ⟨_, _, _, _, rfl, rfl⟩) rfl rfl rfl (Nat.le_of_ble_eq_true rfl) ⟨rfl, rfl, Nat.le_of_ble_eq_true rfl, Nat.le_of_ble_eq_true rfl⟩ ⟨Nat.zero_le _, Nat.zero_le _⟩ ?_
    refine Z_iconst 5 rfl ?_
    refine Z_isub 6 rfl ?_
    refine Z_istore_n 7 rfl rfl (Nat.le_of_ble_eq_true rfl) (lv' := [(3, .int _), (0, .ref _), (1, .ref _), (2, .ref _)]) rfl ?_
    refine Z_aload_n 8 rfl rfl rfl ?_
    refine Z_aload_n 9 rfl rfl rfl ?_
    refine Z_iload_n 10 rfl rfl rfl ?_
    refine Z_aload_n 11 rfl rfl rfl ?_
    refine Z_iload_n 12 rfl rfl rfl ?_
    refine Z_callVip (M' := M_T_riseOf) 13 [1, 2, 3, 4] rfl l_K_38 C_T_riseOf (c_T_riseOf l t (t.2.2.2 - 1) (by omega)) ⟨by decide, (zEL.c (Or.inl rfl) (zEL.c (Or.inl rfl) (zEL.c (Or.inl rfl) (zEL.c (Or.inl rfl) zEL.n))))⟩ (Or.inl ⟨_, _, _, _, rfl, rfl⟩) rfl rfl rfl (Nat.le_of_ble_eq_true rfl) ⟨rfl, rfl, Nat.le_of_ble_eq_true rfl, Nat.le_of_ble_eq_true rfl⟩ ⟨Nat.zero_le _, Nat.zero_le _⟩ ?_
    refine Z_ineg 14 rfl ?_
    refine Z_aload_n 15 rfl rfl rfl ?_
    refine Z_iload_n 16 rfl rfl rfl ?_
    refine Z_callVip (M' := M_T_longOf) 17 [1, 2, 3, 4] rfl l_K_42 C_T_longOf (c_T_longOf l t (t.2.2.2 - 1) (by omega)) ⟨by decide, (zEL.c (Or.inl rfl) (zEL.c (Or.inl rfl) (zEL.c (Or.inl rfl) (zEL.c (Or.inl rfl) zEL.n))))⟩ (Or.inl ⟨_, _, _, _, rfl, rfl⟩) rfl rfl rfl (Nat.le_of_ble_eq_true rfl) ⟨rfl, rfl, Nat.le_of_ble_eq_true rfl, Nat.le_of_ble_eq_true rfl⟩ ⟨Nat.zero_le _, Nat.zero_le _⟩ ?_
    refine Z_callSv (M' := M_K_stand) 18 [1, 2, 3, 4, 5] rfl l_K_45 C_K_stand (c_K_stand l t h.1 s (t.2.2.2 - 1) (-t.2.2.1 (t.2.2.2 - 1)) (t.2.1 (t.2.2.2 - 1)) (by omega) (by have := hr (t.2.2.2 - 1); omega) (by have := hl (t.2.2.2 - 1); omega)) ⟨by decide, (zEL.c (Or.inl rfl) (zEL.c (Or.inl rfl) (zEL.c (Or.inl rfl) (zEL.c (Or.inl rfl) (zEL.c (Or.inl rfl) zEL.n)))))⟩ rfl rfl rfl (Nat.le_of_ble_eq_true rfl) ⟨rfl, rfl, Nat.le_of_ble_eq_true rfl, Nat.le_of_ble_eq_true rfl⟩ ⟨Nat.zero_le _, Nat.zero_le _⟩ (fun out hq => ?_)
    obtain rfl := hq
    refine Z_mem (show _ = eK w t (nsp t w s) by unfold nsp; rw [if_pos (by omega)]; rfl) ?_
    refine Z_aload_n 19 rfl rfl rfl ?_
    refine Z_iconst 20 rfl ?_
    refine Z_put 21 rfl f_K_13 rfl (Nat.le_of_ble_eq_true rfl) (fun _ => ⟨rfl, rfl⟩) (fs' := []) (mem' := eK (w.1, 0, w.2.2.1, w.2.2.2.1, w.2.2.2.2.1, w.2.2.2.2.2) t (nsp t w s)) rfl ?_
    refine Z_iconst 22 rfl ?_
    refine Z_zret 23 rfl rfl rfl ⟨Nat.le_refl _, Nat.le_refl _⟩ ?_
    exact ⟨bT (by unfold mo; omega), by unfold nx; rw [if_pos (by omega)]⟩
