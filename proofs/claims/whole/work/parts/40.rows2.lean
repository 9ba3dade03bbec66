/-! CamPieces: laid, seen; rows, the image, the tape's bytes -/
theorem layP_0 (P Zs : Int → Int) (r i a st : Int) (f : Int → Int) : layP P Zs r i 0 a st f = P := by
  funext j
  unfold layP
  rw [cif_f (by omega)]
theorem layP_out (P Zs : Int → Int) (r i n a st : Int) (f : Int → Int) (h : i < 0 ∨ Zs r ≤ i) : layP P Zs r i n a st f = P := by
  funext j
  unfold layP
  rw [cif_f (by omega)]
theorem layP_s (P Zs : Int → Int) (r i k a st : Int) (f : Int → Int) (hr : 0 ≤ r ∧ r < 4) (hi : 0 ≤ i ∧ i + k < Zs r) (hk : 0 ≤ k) : wrP (layP P Zs r i k a st f) Zs r (i + k) (f (a + k * st)) = layP P Zs r i (k + 1) a st f := by
  unfold wrP
  rw [if_pos ⟨hr, by omega, hi.2⟩]
  funext j
  unfold uI
  by_cases hj : j = r * 30 + (i + k)
  · rw [if_pos hj]
    unfold layP
    rw [cif_t (by omega), show j - 30 * r - i = k by omega]
  · rw [if_neg hj]
    unfold layP
    by_cases h2 : 0 ≤ i ∧ 30 * r + i ≤ j ∧ j < 30 * r + i + k ∧ j < 30 * r + Zs r
    · rw [cif_t h2, cif_t (by omega)]
    · rw [cif_f h2, cif_f (by omega)]
theorem layP_n (P Zs : Int → Int) (r i k a st : Int) (f : Int → Int) (h : Zs r ≤ i + k) : layP P Zs r i k a st f = layP P Zs r i (k + 1) a st f := by
  funext j
  unfold layP
  by_cases h2 : 0 ≤ i ∧ 30 * r + i ≤ j ∧ j < 30 * r + i + k ∧ j < 30 * r + Zs r
  · rw [cif_t h2, cif_t (by omega)]
  · rw [cif_f h2, cif_f (by omega)]
theorem layP_b {P Zs : Int → Int} {r i k a st : Int} {f : Int → Int} (h : ∀ x, inL (P x)) (hf : ∀ x, inL (f x)) (x : Int) : inL (layP P Zs r i k a st f x) := by
  unfold layP
  by_cases h2 : 0 ≤ i ∧ 30 * r + i ≤ x ∧ x < 30 * r + i + k ∧ x < 30 * r + Zs r
  · rw [cif_t h2]
    exact hf _
  · rw [cif_f h2]
    exact h x
theorem sampleF_sV {t : TT} (h : TV t) (S : Int → Int) {a : Int} (hz : 0 < t.2.2.2 ∧ 0 ≤ a ∧ a ≤ tot t) : sampleF t S a = sV t S a := by
  unfold sampleF
  rw [cif_t hz]
  rfl
theorem sampleF_b {t : TT} (h : TV t) {S : Int → Int} (hS : SB S) (a : Int) : inL (sampleF t S a) := by
  by_cases hz : 0 < t.2.2.2 ∧ 0 ≤ a ∧ a ≤ tot t
  · rw [sampleF_sV h S hz]
    have := sV_bd h hS hz.1 hz.2.1 hz.2.2
    omega
  · unfold sampleF
    rw [cif_f hz]
    unfold NOv
    omega
theorem PV_rp {p : PS} (h : PV p) {P' : Int → Int} (hP : ∀ x, inL (P' x)) : PV ((p.1, p.2.1, p.2.2.1, p.2.2.2.1, p.2.2.2.2.1, p.2.2.2.2.2.1, p.2.2.2.2.2.2.1, p.2.2.2.2.2.2.2.1, P', p.2.2.2.2.2.2.2.2.2)) := by
  obtain ⟨h1, h2, h3, h4, h5, h6, h7, h8, h9⟩ := h
  exact ⟨h1, h2, h3, h4, h5, h6, h7, hP, h9⟩
section C11
variable (l : Launch) (p : PS) (rj : RJ) (w : WW) (g : RR) (q q2 : Int × Int) (sm co : Int → Int)
theorem c_C_areAngles (s : SS) (h : PV p) (a st n : Int) (ha : inI a) (hs : inI st) (hn : 0 ≤ n ∧ n ≤ 30) : Con l M_C_areAngles R_C_areAngles 0 0 false [.ref 0, .int (iI a), .int (iI st), .int (iI n)] (eC p rj s w g q q2 sm co) (zAb (layOk p.t a st n) (fun m => m = eC p rj s w g q q2 sm co)) := by
  have h1 := h.1.1.1
  have h2 := tot_bd h.1.1
  refine Con.of_Z (by decide) D_C_areAngles (Nat.le_of_ble_eq_true rfl) ?_
  refine Z_aload_n 0 rfl rfl rfl ?_
  refine Z_get 1 rfl f_C_14 rfl rfl ?_
  refine Z_callVip (M' := M_T_total) 2 [1, 2, 3, 4] rfl l_C_103 C_T_total (c_T_total l p.t h.1.1) ⟨by decide, (zEL.c (Or.inl rfl) (zEL.c (Or.inl rfl) (zEL.c (Or.inl rfl) (zEL.c (Or.inl rfl) zEL.n))))⟩ (Or.inl ⟨_, _, _, _, rfl, rfl⟩) rfl rfl rfl (Nat.le_of_ble_eq_true rfl) ⟨rfl, rfl, Nat.le_of_ble_eq_true rfl, Nat.le_of_ble_eq_true rfl⟩ ⟨Nat.zero_le _, Nat.zero_le _⟩ ?_
  refine Z_istore 3 rfl (Nat.le_of_ble_eq_true rfl) (lv' := [(4, .int _), (0, .ref _), (1, .int _), (2, .int _), (3, .int _)]) rfl ?_
  refine Z_aload_n 4 rfl rfl rfl ?_
  refine Z_get 5 rfl f_C_14 rfl rfl ?_
  refine Z_callVip (M' := M_T_size) 6 [1, 2, 3, 4] rfl l_C_111 C_T_size (c_T_size l p.t) ⟨by decide, (zEL.c (Or.inl rfl) (zEL.c (Or.inl rfl) (zEL.c (Or.inl rfl) (zEL.c (Or.inl rfl) zEL.n))))⟩ (Or.inl ⟨_, _, _, _, rfl, rfl⟩) rfl rfl rfl (Nat.le_of_ble_eq_true rfl) ⟨rfl, rfl, Nat.le_of_ble_eq_true rfl, Nat.le_of_ble_eq_true rfl⟩ ⟨Nat.zero_le _, Nat.zero_le _⟩ ?_
  refine Z_if_eq 7 rfl (tgt := 40) rfl (by omega) (fun c16 => ?_) (fun c16 => ?_)
  · refine Z_iconst 19 rfl ?_
    refine Z_zret 20 rfl rfl rfl ⟨Nat.le_refl _, Nat.le_refl _⟩ ?_
    first | exact ⟨bT (by unfold layOk; omega), rfl⟩ | exact ⟨bF (by unfold layOk; omega), rfl⟩
  · refine Z_iload_n 8 rfl rfl rfl ?_
    refine Z_if_lt 9 rfl (tgt := 40) rfl (by omega) (fun c20 => ?_) (fun c20 => ?_)
    · refine Z_iconst 19 rfl ?_
      refine Z_zret 20 rfl rfl rfl ⟨Nat.le_refl _, Nat.le_refl _⟩ ?_
      first | exact ⟨bT (by unfold layOk; omega), rfl⟩ | exact ⟨bF (by unfold layOk; omega), rfl⟩
    · refine Z_iload_n 10 rfl rfl rfl ?_
      refine Z_iload 11 rfl rfl ?_
      refine Z_icmp_gt 12 rfl (tgt := 40) rfl (by omega) (by omega) (fun c26 => ?_) (fun c26 => ?_)
      · refine Z_iconst 19 rfl ?_
        refine Z_zret 20 rfl rfl rfl ⟨Nat.le_refl _, Nat.le_refl _⟩ ?_
        first | exact ⟨bT (by unfold layOk; omega), rfl⟩ | exact ⟨bF (by unfold layOk; omega), rfl⟩
      · refine Z_iload_n 13 rfl rfl rfl ?_
        refine Z_iconst 14 rfl ?_
        refine Z_icmp_lt 15 rfl (tgt := 40) rfl (by omega) (by omega) (fun c31 => ?_) (fun c31 => ?_)
        · refine Z_iconst 19 rfl ?_
          refine Z_zret 20 rfl rfl rfl ⟨Nat.le_refl _, Nat.le_refl _⟩ ?_
          first | exact ⟨bT (by unfold layOk; omega), rfl⟩ | exact ⟨bF (by unfold layOk; omega), rfl⟩
        · refine Z_iload_n 16 rfl rfl rfl ?_
          refine Z_bipush 17 rfl rfl ?_
          refine Z_icmp_le 18 rfl (tgt := 42) rfl (by omega) (by omega) (fun c37 => ?_) (fun c37 => ?_)
          · refine Z_iload_n 21 rfl rfl rfl ?_
            refine Z_if_eq 22 rfl (tgt := 58) rfl (by omega) (fun c43 => ?_) (fun c43 => ?_)
            · refine Z_iconst 32 rfl ?_
              refine Z_goto 33 rfl (tgt := 63) rfl ?_
              refine Z_zret 35 rfl rfl rfl ⟨Nat.le_refl _, Nat.le_refl _⟩ ?_
              first | exact ⟨bT (by unfold layOk; omega), rfl⟩ | exact ⟨bF (by unfold layOk; omega), rfl⟩
            · have hm := mul_ab (x := n - 1) (y := st) (A := 30) (B := 60) (by omega) (by omega)
              refine Z_iload_n 23 rfl rfl rfl ?_
              refine Z_iload_n 24 rfl rfl rfl ?_
              refine Z_iconst 25 rfl ?_
              refine Z_isub 26 rfl ?_
              refine Z_iload_n 27 rfl rfl rfl ?_
              refine Z_imul 28 rfl ?_
              refine Z_iadd 29 rfl ?_
              refine Z_iload 30 rfl rfl ?_
              refine Z_icmp_gt 31 rfl (tgt := 62) rfl (by omega) (by omega) (fun c55 => ?_) (fun c55 => ?_)
              · refine Z_iconst 34 rfl ?_
                refine Z_zret 35 rfl rfl rfl ⟨Nat.le_refl _, Nat.le_refl _⟩ ?_
                first | exact ⟨bT (by unfold layOk; omega), rfl⟩ | exact ⟨bF (by unfold layOk; omega), rfl⟩
              · refine Z_iconst 32 rfl ?_
                refine Z_goto 33 rfl (tgt := 63) rfl ?_
                refine Z_zret 35 rfl rfl rfl ⟨Nat.le_refl _, Nat.le_refl _⟩ ?_
                first | exact ⟨bT (by unfold layOk; omega), rfl⟩ | exact ⟨bF (by unfold layOk; omega), rfl⟩
          · refine Z_iconst 19 rfl ?_
            refine Z_zret 20 rfl rfl rfl ⟨Nat.le_refl _, Nat.le_refl _⟩ ?_
            first | exact ⟨bT (by unfold layOk; omega), rfl⟩ | exact ⟨bF (by unfold layOk; omega), rfl⟩
theorem lp_C_lay (h : PV p) (r i a st n : Int) (hr : 0 ≤ r ∧ r < 4) (hi : inI i) (ho : layOk p.t a st n) (hz : 0 ≤ p.rz r) : ∀ (d : Nat) (k : Int) (s : SS), 0 ≤ k → k ≤ n → n - k < d → Z (l, M_C_lay, R_C_lay, (0, 0), false, zAi (if n = 0 ∨ (0 ≤ i ∧ i ≤ p.rz r - n) then n else -13) (EC rj ((p.1, p.2.1, p.2.2.1, p.2.2.2.1, p.2.2.2.2.1, p.2.2.2.2.2.1, p.2.2.2.2.2.2.1, p.2.2.2.2.2.2.2.1, layP p.rp p.rz r i n a st (sampleF p.t p.s), p.2.2.2.2.2.2.2.2.2)))) 0 0 (eC ((p.1, p.2.1, p.2.2.1, p.2.2.2.1, p.2.2.2.2.1, p.2.2.2.2.2.1, p.2.2.2.2.2.2.1, p.2.2.2.2.2.2.2.1, layP p.rp p.rz r i k a st (sampleF p.t p.s), p.2.2.2.2.2.2.2.2.2)) rj s w g q q2 sm co) 57 [(0, .ref 0), (1, .int (iI r)), (2, .int (iI i)), (3, .int (iI a)), (4, .int (iI st)), (5, .int (iI n)), (6, .int (iI k))] [] := by
  have hZ : ZB p.rz := h.2.2.2.2.2.2.2.2
  have hzr := hZ r
  have ht := h.1.2.1
  have ho2 := ho
  unfold layOk at ho2
  intro d
  induction d with
  | zero => intro k s h2 h3 h4; omega
  | succ d ih =>
    intro k s h2 h3 h4
    have hP : PV ((p.1, p.2.1, p.2.2.1, p.2.2.2.1, p.2.2.2.2.1, p.2.2.2.2.2.1, p.2.2.2.2.2.2.1, p.2.2.2.2.2.2.2.1, layP p.rp p.rz r i k a st (sampleF p.t p.s), p.2.2.2.2.2.2.2.2.2)) := PV_rp h (layP_b h.2.2.2.2.2.2.2.1 (sampleF_b h.1 h.2.1))
    have hk : k < n → 0 ≤ k * st ∧ k * st ≤ (n - 1) * st := fun hkn => ⟨Int.mul_nonneg h2 (by omega), Int.mul_le_mul_of_nonneg_right (show k ≤ n - 1 by omega) (by omega)⟩
    refine Z_iload 29 rfl rfl ?_
    refine Z_iload 30 rfl rfl ?_
    refine Z_icmp_ge 31 rfl (tgt := 118) rfl (by omega) (by omega) (fun c61 => ?_) (fun c61 => ?_)
    · refine Z_aload_n 61 rfl rfl rfl ?_
      refine Z_get 62 rfl f_C_46 rfl rfl ?_
      refine Z_iload_n 63 rfl rfl rfl ?_
      refine Z_iload_n 64 rfl rfl rfl ?_
      refine Z_iload 65 rfl rfl ?_
      refine Z_callVbp (M' := M_W_hasPlaces) 66 [17, 18, 19] rfl l_C_326 C_W_hasPlaces (c_W_hasPlaces l (layP p.rp p.rz r i k a st (sampleF p.t p.s)) p.rz hZ r i n hr hi (by omega)) ⟨by decide, (zEL.c (Or.inl rfl) (zEL.c (Or.inl rfl) (zEL.c (Or.inl rfl) zEL.n)))⟩ (Or.inl ⟨_, _, _, _, rfl, rfl⟩) rfl rfl rfl (Nat.le_of_ble_eq_true rfl) ⟨rfl, rfl, Nat.le_of_ble_eq_true rfl, Nat.le_of_ble_eq_true rfl⟩ ⟨Nat.zero_le _, Nat.zero_le _⟩ ?_
      refine Z_ifb_eq 67 rfl (tgt := 137) rfl (fun c129 => ?_) (fun c129 => ?_)
      · refine Z_bipush 70 rfl rfl ?_
        refine Z_iret 71 rfl rfl ⟨Nat.le_refl _, Nat.le_refl _⟩ ?_
        exact ⟨by first | rw [if_pos (by omega)] | rw [if_neg (by omega)], s, w, g, q, q2, sm, co, by first | rw [show n = k by omega] | rw [layP_out _ _ _ _ _ _ _ _ (show i < 0 ∨ p.rz r ≤ i by omega), layP_out _ _ _ _ _ _ _ _ (show i < 0 ∨ p.rz r ≤ i by omega)]⟩
      · refine Z_iload 68 rfl rfl ?_
        refine Z_goto 69 rfl (tgt := 139) rfl ?_
        refine Z_iret 71 rfl rfl ⟨Nat.le_refl _, Nat.le_refl _⟩ ?_
        exact ⟨by first | rw [if_pos (by omega)] | rw [if_neg (by omega)], s, w, g, q, q2, sm, co, by first | rw [show n = k by omega] | rw [layP_out _ _ _ _ _ _ _ _ (show i < 0 ∨ p.rz r ≤ i by omega), layP_out _ _ _ _ _ _ _ _ (show i < 0 ∨ p.rz r ≤ i by omega)]⟩
    · refine Z_iload_n 32 rfl rfl rfl ?_
      refine Z_if_lt 33 rfl (tgt := 118) rfl (by omega) (fun c65 => ?_) (fun c65 => ?_)
      · refine Z_aload_n 61 rfl rfl rfl ?_
        refine Z_get 62 rfl f_C_46 rfl rfl ?_
        refine Z_iload_n 63 rfl rfl rfl ?_
        refine Z_iload_n 64 rfl rfl rfl ?_
        refine Z_iload 65 rfl rfl ?_
        refine Z_callVbp (M' := M_W_hasPlaces) 66 [17, 18, 19] rfl l_C_326 C_W_hasPlaces (c_W_hasPlaces l (layP p.rp p.rz r i k a st (sampleF p.t p.s)) p.rz hZ r i n hr hi (by omega)) ⟨by decide, (zEL.c (Or.inl rfl) (zEL.c (Or.inl rfl) (zEL.c (Or.inl rfl) zEL.n)))⟩ (Or.inl ⟨_, _, _, _, rfl, rfl⟩) rfl rfl rfl (Nat.le_of_ble_eq_true rfl) ⟨rfl, rfl, Nat.le_of_ble_eq_true rfl, Nat.le_of_ble_eq_true rfl⟩ ⟨Nat.zero_le _, Nat.zero_le _⟩ ?_
        refine Z_ifb_eq 67 rfl (tgt := 137) rfl (fun c129 => ?_) (fun c129 => ?_)
        · refine Z_bipush 70 rfl rfl ?_
          refine Z_iret 71 rfl rfl ⟨Nat.le_refl _, Nat.le_refl _⟩ ?_
          exact ⟨by first | rw [if_pos (by omega)] | rw [if_neg (by omega)], s, w, g, q, q2, sm, co, by first | rw [show n = k by omega] | rw [layP_out _ _ _ _ _ _ _ _ (show i < 0 ∨ p.rz r ≤ i by omega), layP_out _ _ _ _ _ _ _ _ (show i < 0 ∨ p.rz r ≤ i by omega)]⟩
        · refine Z_iload 68 rfl rfl ?_
          refine Z_goto 69 rfl (tgt := 139) rfl ?_
          refine Z_iret 71 rfl rfl ⟨Nat.le_refl _, Nat.le_refl _⟩ ?_
          exact ⟨by first | rw [if_pos (by omega)] | rw [if_neg (by omega)], s, w, g, q, q2, sm, co, by first | rw [show n = k by omega] | rw [layP_out _ _ _ _ _ _ _ _ (show i < 0 ∨ p.rz r ≤ i by omega), layP_out _ _ _ _ _ _ _ _ (show i < 0 ∨ p.rz r ≤ i by omega)]⟩
      · refine Z_iload_n 34 rfl rfl rfl ?_
        refine Z_bipush 35 rfl rfl ?_
        refine Z_icmp_gt 36 rfl (tgt := 118) rfl (by omega) (by omega) (fun c71 => ?_) (fun c71 => ?_)
        · refine Z_aload_n 61 rfl rfl rfl ?_
          refine Z_get 62 rfl f_C_46 rfl rfl ?_
          refine Z_iload_n 63 rfl rfl rfl ?_
          refine Z_iload_n 64 rfl rfl rfl ?_
          refine Z_iload 65 rfl rfl ?_
          refine Z_callVbp (M' := M_W_hasPlaces) 66 [17, 18, 19] rfl l_C_326 C_W_hasPlaces (c_W_hasPlaces l (layP p.rp p.rz r i k a st (sampleF p.t p.s)) p.rz hZ r i n hr hi (by omega)) ⟨by decide, (zEL.c (Or.inl rfl) (zEL.c (Or.inl rfl) (zEL.c (Or.inl rfl) zEL.n)))⟩ (Or.inl ⟨_, _, _, _, rfl, rfl⟩) rfl rfl rfl (Nat.le_of_ble_eq_true rfl) ⟨rfl, rfl, Nat.le_of_ble_eq_true rfl, Nat.le_of_ble_eq_true rfl⟩ ⟨Nat.zero_le _, Nat.zero_le _⟩ ?_
          refine Z_ifb_eq 67 rfl (tgt := 137) rfl (fun c129 => ?_) (fun c129 => ?_)
          · refine Z_bipush 70 rfl rfl ?_
            refine Z_iret 71 rfl rfl ⟨Nat.le_refl _, Nat.le_refl _⟩ ?_
            exact ⟨by first | rw [if_pos (by omega)] | rw [if_neg (by omega)], s, w, g, q, q2, sm, co, by first | rw [show n = k by omega] | rw [layP_out _ _ _ _ _ _ _ _ (show i < 0 ∨ p.rz r ≤ i by omega), layP_out _ _ _ _ _ _ _ _ (show i < 0 ∨ p.rz r ≤ i by omega)]⟩
          · refine Z_iload 68 rfl rfl ?_
            refine Z_goto 69 rfl (tgt := 139) rfl ?_
            refine Z_iret 71 rfl rfl ⟨Nat.le_refl _, Nat.le_refl _⟩ ?_
            exact ⟨by first | rw [if_pos (by omega)] | rw [if_neg (by omega)], s, w, g, q, q2, sm, co, by first | rw [show n = k by omega] | rw [layP_out _ _ _ _ _ _ _ _ (show i < 0 ∨ p.rz r ≤ i by omega), layP_out _ _ _ _ _ _ _ _ (show i < 0 ∨ p.rz r ≤ i by omega)]⟩
        · refine Z_aload_n 37 rfl rfl rfl ?_
          refine Z_get 38 rfl f_C_46 rfl rfl ?_
          refine Z_iload_n 39 rfl rfl rfl ?_
          refine Z_iload_n 40 rfl rfl rfl ?_
          refine Z_iload 41 rfl rfl ?_
          refine Z_iadd 42 rfl ?_
          refine Z_callVbp (M' := M_W_hasPlace) 43 [17, 18, 19] rfl l_C_317 C_W_hasPlace (c_W_hasPlace l (layP p.rp p.rz r i k a st (sampleF p.t p.s)) p.rz hZ r (i + k) (by omega) (by omega)) ⟨by decide, (zEL.c (Or.inl rfl) (zEL.c (Or.inl rfl) (zEL.c (Or.inl rfl) zEL.n)))⟩ (Or.inl ⟨_, _, _, _, rfl, rfl⟩) rfl rfl rfl (Nat.le_of_ble_eq_true rfl) ⟨rfl, rfl, Nat.le_of_ble_eq_true rfl, Nat.le_of_ble_eq_true rfl⟩ ⟨Nat.zero_le _, Nat.zero_le _⟩ ?_
          refine Z_ifb_eq 44 rfl (tgt := 112) rfl (fun c86 => ?_) (fun c86 => ?_)
          · refine Z_iinc 59 rfl rfl (Nat.le_of_ble_eq_true rfl) (lv' := [(6, .int _), (0, .ref _), (1, .int _), (2, .int _), (3, .int _), (4, .int _), (5, .int _)]) rfl ?_
            refine Z_goto 60 rfl (tgt := 57) rfl ?_
            refine Z_pick [0, 1, 2, 3, 4, 5, 6] (lv' := [(0, .ref _), (1, .int _), (2, .int _), (3, .int _), (4, .int _), (5, .int _), (6, .int _)]) rfl ?_
            first
              | (rw [layP_n _ _ _ _ _ _ _ _ (show p.rz r ≤ i + k by unfold hasPl at c86; omega)]
                 exact ih (k + 1) _ (by omega) (by omega) (by omega))
              | exact ih (k + 1) _ (by omega) (by omega) (by omega)
          · have hk2 := hk (by omega)
            refine Z_aload_n 45 rfl rfl rfl ?_
            refine Z_get 46 rfl f_C_46 rfl rfl ?_
            refine Z_iload_n 47 rfl rfl rfl ?_
            refine Z_iload_n 48 rfl rfl rfl ?_
            refine Z_iload 49 rfl rfl ?_
            refine Z_iadd 50 rfl ?_
            refine Z_aload_n 51 rfl rfl rfl ?_
            refine Z_iload_n 52 rfl rfl rfl ?_
            refine Z_iload 53 rfl rfl ?_
            refine Z_iload 54 rfl rfl ?_
            refine Z_imul 55 rfl ?_
            refine Z_iadd 56 rfl ?_
            refine Z_callVl (M' := M_C_sample) 57 isC rfl l_C_320 C_C_sample (c_C_sample l _ rj s w g q q2 sm co hP (a + k * st) (by omega)) (emC ..) (Or.inl ⟨_, _, _, _, rfl, rfl⟩) rfl rfl rfl (Nat.le_of_ble_eq_true rfl) ⟨rfl, rfl, Nat.le_of_ble_eq_true rfl, Nat.le_of_ble_eq_true rfl⟩ ⟨Nat.zero_le _, Nat.zero_le _⟩ (fun out hq => ?_)
            obtain ⟨s', rfl⟩ := hq
            refine Z_mem (mgC ..) ?_
            refine Z_callVv (M' := M_W_write) 58 [17, 18, 19] rfl l_C_323 C_W_write (c_W_write l (layP p.rp p.rz r i k a st (sampleF p.t p.s)) p.rz hZ r (i + k) (sampleF p.t p.s (a + k * st)) hr (by omega)) ⟨by decide, (zEL.c (Or.inl rfl) (zEL.c (Or.inl rfl) (zEL.c (Or.inl rfl) zEL.n)))⟩ (Or.inl ⟨_, _, _, _, rfl, rfl⟩) rfl rfl rfl (Nat.le_of_ble_eq_true rfl) ⟨rfl, rfl, Nat.le_of_ble_eq_true rfl, Nat.le_of_ble_eq_true rfl⟩ ⟨Nat.zero_le _, Nat.zero_le _⟩ (fun out hq => ?_)
            obtain rfl := hq
            refine Z_mem (show _ = eC ((p.1, p.2.1, p.2.2.1, p.2.2.2.1, p.2.2.2.2.1, p.2.2.2.2.2.1, p.2.2.2.2.2.2.1, p.2.2.2.2.2.2.2.1, layP p.rp p.rz r i (k + 1) a st (sampleF p.t p.s), p.2.2.2.2.2.2.2.2.2)) rj s' w g q q2 sm co by rw [← layP_s p.rp p.rz r i k a st (sampleF p.t p.s) hr (by unfold hasPl at c86; omega) h2]; rfl) ?_
            refine Z_iinc 59 rfl rfl (Nat.le_of_ble_eq_true rfl) (lv' := [(6, .int _), (0, .ref _), (1, .int _), (2, .int _), (3, .int _), (4, .int _), (5, .int _)]) rfl ?_
            refine Z_goto 60 rfl (tgt := 57) rfl ?_
            refine Z_pick [0, 1, 2, 3, 4, 5, 6] (lv' := [(0, .ref _), (1, .int _), (2, .int _), (3, .int _), (4, .int _), (5, .int _), (6, .int _)]) rfl ?_
            first
              | (rw [layP_n _ _ _ _ _ _ _ _ (show p.rz r ≤ i + k by unfold hasPl at c86; omega)]
                 exact ih (k + 1) _ (by omega) (by omega) (by omega))
              | exact ih (k + 1) _ (by omega) (by omega) (by omega)
theorem c_C_lay (s : SS) (h : PV p) (r i a st n : Int) (hr : inI r) (hi : inI i) (ha : inI a) (hs : inI st) (hn : inI n) : Con l M_C_lay R_C_lay 0 0 false [.ref 0, .int (iI r), .int (iI i), .int (iI a), .int (iI st), .int (iI n)] (eC p rj s w g q q2 sm co) (zAi (layF p.t p.s p.rp p.rz r i a st n).1 (EC rj ((p.1, p.2.1, p.2.2.1, p.2.2.2.1, p.2.2.2.2.1, p.2.2.2.2.2.1, p.2.2.2.2.2.2.1, p.2.2.2.2.2.2.2.1, (layF p.t p.s p.rp p.rz r i a st n).2, p.2.2.2.2.2.2.2.2.2)))) := by
  have hZ : ZB p.rz := h.2.2.2.2.2.2.2.2
  refine Con.of_Z (by decide) D_C_lay (Nat.le_of_ble_eq_true rfl) ?_
  refine Z_aload_n 0 rfl rfl rfl ?_
  refine Z_get 1 rfl f_C_46 rfl rfl ?_
  refine Z_iload_n 2 rfl rfl rfl ?_
  refine Z_callVbp (M' := M_W_mayHave) 3 [17, 18, 19] rfl l_C_310 C_W_mayHave (c_W_mayHave l p.rp p.rz r hr) ⟨by decide, (zEL.c (Or.inl rfl) (zEL.c (Or.inl rfl) (zEL.c (Or.inl rfl) zEL.n)))⟩ (Or.inl ⟨_, _, _, _, rfl, rfl⟩) rfl rfl rfl (Nat.le_of_ble_eq_true rfl) ⟨rfl, rfl, Nat.le_of_ble_eq_true rfl, Nat.le_of_ble_eq_true rfl⟩ ⟨Nat.zero_le _, Nat.zero_le _⟩ ?_
  refine Z_ifb_ne 4 rfl (tgt := 13) rfl (fun c8 => ?_) (fun c8 => ?_)
  · refine Z_aload_n 7 rfl rfl rfl ?_
    refine Z_get 8 rfl f_C_46 rfl rfl ?_
    refine Z_iload_n 9 rfl rfl rfl ?_
    refine Z_callVbp (M' := M_W_has) 10 [17, 18, 19] rfl l_C_313 C_W_has (c_W_has l p.rp p.rz hZ r hr) ⟨by decide, (zEL.c (Or.inl rfl) (zEL.c (Or.inl rfl) (zEL.c (Or.inl rfl) zEL.n)))⟩ (Or.inl ⟨_, _, _, _, rfl, rfl⟩) rfl rfl rfl (Nat.le_of_ble_eq_true rfl) ⟨rfl, rfl, Nat.le_of_ble_eq_true rfl, Nat.le_of_ble_eq_true rfl⟩ ⟨Nat.zero_le _, Nat.zero_le _⟩ ?_
    refine Z_ifb_ne 11 rfl (tgt := 27) rfl (fun c21 => ?_) (fun c21 => ?_)
    · refine Z_iload 14 rfl rfl ?_
      refine Z_if_lt 15 rfl (tgt := 51) rfl (by omega) (fun c29 => ?_) (fun c29 => ?_)
      · refine Z_bipush 25 rfl rfl ?_
        refine Z_iret 26 rfl rfl ⟨Nat.le_refl _, Nat.le_refl _⟩ ?_
        exact ⟨by unfold layF; rw [cif_t (by omega), cif_t (by omega), cif_f (by first | assumption | (unfold layOk; omega))], s, w, g, q, q2, sm, co, by unfold layF; rw [cif_t (by omega), cif_t (by omega), cif_f (by first | assumption | (unfold layOk; omega))] <;> rfl⟩
      · refine Z_iload 16 rfl rfl ?_
        refine Z_bipush 17 rfl rfl ?_
        refine Z_icmp_gt 18 rfl (tgt := 51) rfl (by omega) (by omega) (fun c36 => ?_) (fun c36 => ?_)
        · refine Z_bipush 25 rfl rfl ?_
          refine Z_iret 26 rfl rfl ⟨Nat.le_refl _, Nat.le_refl _⟩ ?_
          exact ⟨by unfold layF; rw [cif_t (by omega), cif_t (by omega), cif_f (by first | assumption | (unfold layOk; omega))], s, w, g, q, q2, sm, co, by unfold layF; rw [cif_t (by omega), cif_t (by omega), cif_f (by first | assumption | (unfold layOk; omega))] <;> rfl⟩
        · refine Z_aload_n 19 rfl rfl rfl ?_
          refine Z_iload_n 20 rfl rfl rfl ?_
          refine Z_iload 21 rfl rfl ?_
          refine Z_iload 22 rfl rfl ?_
          refine Z_callVbp (M' := M_C_areAngles) 23 isC rfl l_C_314 C_C_areAngles (c_C_areAngles l p rj w g q q2 sm co s h a st n ha hs (by omega)) (emC ..) (Or.inl ⟨_, _, _, _, rfl, rfl⟩) rfl rfl rfl (Nat.le_of_ble_eq_true rfl) ⟨rfl, rfl, Nat.le_of_ble_eq_true rfl, Nat.le_of_ble_eq_true rfl⟩ ⟨Nat.zero_le _, Nat.zero_le _⟩ ?_
          refine Z_ifb_ne 24 rfl (tgt := 54) rfl (fun c48 => ?_) (fun c48 => ?_)
          · refine Z_iconst 27 rfl ?_
            refine Z_istore 28 rfl (Nat.le_of_ble_eq_true rfl) (lv' := [(6, .int _), (0, .ref _), (1, .int _), (2, .int _), (3, .int _), (4, .int _), (5, .int _)]) rfl ?_
            refine Z_pick [0, 1, 2, 3, 4, 5, 6] (lv' := [(0, .ref _), (1, .int _), (2, .int _), (3, .int _), (4, .int _), (5, .int _), (6, .int _)]) rfl ?_
            have hz := lp_C_lay l p rj w g q q2 sm co h r i a st n (by omega) hi c48 (by omega) 31 0 s (by omega) (by omega) (by omega)
            rw [layP_0] at hz
            unfold layF
            rw [cif_t (by omega), cif_t (by omega), cif_t c48]
            exact hz
          · refine Z_bipush 25 rfl rfl ?_
            refine Z_iret 26 rfl rfl ⟨Nat.le_refl _, Nat.le_refl _⟩ ?_
            exact ⟨by unfold layF; rw [cif_t (by omega), cif_t (by omega), cif_f (by first | assumption | (unfold layOk; omega))], s, w, g, q, q2, sm, co, by unfold layF; rw [cif_t (by omega), cif_t (by omega), cif_f (by first | assumption | (unfold layOk; omega))] <;> rfl⟩
    · refine Z_bipush 12 rfl rfl ?_
      refine Z_iret 13 rfl rfl ⟨Nat.le_refl _, Nat.le_refl _⟩ ?_
      exact ⟨by unfold layF; (repeat (first | rw [cif_t (by first | assumption | omega)] | rw [cif_f (by first | assumption | omega)])), s, w, g, q, q2, sm, co, by unfold layF; (repeat (first | rw [cif_t (by first | assumption | omega)] | rw [cif_f (by first | assumption | omega)])) <;> rfl⟩
  · refine Z_iconst 5 rfl ?_
    refine Z_iret 6 rfl rfl ⟨Nat.le_refl _, Nat.le_refl _⟩ ?_
    exact ⟨by unfold layF; (repeat (first | rw [cif_t (by first | assumption | omega)] | rw [cif_f (by first | assumption | omega)])), s, w, g, q, q2, sm, co, by unfold layF; (repeat (first | rw [cif_t (by first | assumption | omega)] | rw [cif_f (by first | assumption | omega)])) <;> rfl⟩
theorem lp_C_isSeenBy (s : SS) (h : PV p) (kd r i n j : Int) (hk : 0 ≤ kd ∧ kd ≤ 5) (hr : 0 ≤ r ∧ r < 4) (hj : 0 ≤ j ∧ j < p.t.2.2.2) (hn : (1 ≤ n ∧ n ≤ 30) ∧ n ≤ p.t.2.1 j + 1) (hi : 0 ≤ i ∧ i ≤ p.rz r - n) : ∀ (d : Nat) (u : Int) (s : SS), 0 ≤ u → u ≤ n → n - u < d → (∀ x, 0 ≤ x → x < u → p.rp (r * 30 + (i + x)) = smp (sd kd (p.t.2.1 j) (p.t.2.2.1 j) (ah p.t j) x) (p.s 5)) → Z (l, M_C_isSeenBy, R_C_isSeenBy, (0, 0), false, zAb (seeP p.t p.s p.rp r i n j kd) (fun m => ∃ s', m = eC p rj s' w g q q2 sm co)) 0 0 (eC p rj s w g q q2 sm co) 36 [(0, .ref 0), (1, .int (iI kd)), (2, .int (iI r)), (3, .int (iI i)), (4, .int (iI n)), (6, .int (iI (p.t.2.1 j))), (7, .int (iI (p.t.2.2.1 j))), (8, .int (iI (ah p.t j))), (9, .int (iI u))] [] := by
  have hZ : ZB p.rz := h.2.2.2.2.2.2.2.2
  have hzr := hZ r
  have h1 := h.1.1.1
  have b2 := h.1.1.2.2.1 j
  have b3 := h.1.1.2.2.2 j
  have b4 := ah_bd h.1.1 (show j ≤ 12 by omega)
  have hl := TV_L h.1 hj.1 hj.2
  intro d
  induction d with
  | zero => intro u s h2 h3 h4; omega
  | succ d ih =>
    intro u s h2 h3 h4 h5
    refine Z_iload 17 rfl rfl ?_
    refine Z_iload 18 rfl rfl ?_
    refine Z_icmp_ge 19 rfl (tgt := 98) rfl (by omega) (by omega) (fun c40 => ?_) (fun c40 => ?_)
    · refine Z_iconst 50 rfl ?_
      refine Z_zret 51 rfl rfl rfl ⟨Nat.le_refl _, Nat.le_refl _⟩ ?_
      exact ⟨bT (fun x x1 x2 => h5 x x1 (by omega)), _, rfl⟩
    · refine Z_iload 20 rfl rfl ?_
      refine Z_bipush 21 rfl rfl ?_
      refine Z_icmp_gt 22 rfl (tgt := 98) rfl (by omega) (by omega) (fun c47 => ?_) (fun c47 => ?_)
      · exfalso; omega
      have hsb := sd_bd (k := kd) (L := p.t.2.1 j) (r := p.t.2.2.1 j) (a := ah p.t j) (u := u) hk hl b3 (by omega) (by omega)
      have hsg := sd_g (k := kd) (L := p.t.2.1 j) (r := p.t.2.2.1 j) (a := ah p.t j) (u := u) hk hl b3 (by omega)
      have hs2 := smp_b2 hsb hsg h.2.1.2.2.2.2.2
      have hpl := h.2.2.2.2.2.2.2.1 (r * 30 + (i + u))
      have hrd : rdP p.rp p.rz r (i + u) = p.rp (r * 30 + (i + u)) := by unfold rdP; rw [if_pos (by omega)]
      refine Z_aload_n 23 rfl rfl rfl ?_
      refine Z_get 24 rfl f_C_53 rfl rfl ?_
      refine Z_iload_n 25 rfl rfl rfl ?_
      refine Z_iload 26 rfl rfl ?_
      refine Z_i2l 27 rfl (by omega) ?_
      refine Z_iload 28 rfl rfl ?_
      refine Z_i2l 29 rfl (by omega) ?_
      refine Z_iload 30 rfl rfl ?_
      refine Z_i2l 31 rfl (by omega) ?_
      refine Z_iload 32 rfl rfl ?_
      refine Z_i2l 33 rfl (by omega) ?_
      refine Z_callVv (M' := M_S_stand) 34 [20] rfl l_C_365 C_S_stand (c_S_stand l s kd (p.t.2.1 j) (p.t.2.2.1 j) (ah p.t j) u (by omega)) ⟨by decide, (zEL.c (Or.inl rfl) zEL.n)⟩ (Or.inl ⟨_, _, _, _, rfl, rfl⟩) rfl rfl rfl (Nat.le_of_ble_eq_true rfl) ⟨rfl, rfl, Nat.le_of_ble_eq_true rfl, Nat.le_of_ble_eq_true rfl⟩ ⟨Nat.zero_le _, Nat.zero_le _⟩ (fun out hq => ?_)
      obtain rfl := hq
      refine Z_mem (show _ = eC p rj (sd kd (p.t.2.1 j) (p.t.2.2.1 j) (ah p.t j) u) w g q q2 sm co from rfl) ?_
      refine Z_aload_n 35 rfl rfl rfl ?_
      refine Z_get 36 rfl f_C_46 rfl rfl ?_
      refine Z_iload_n 37 rfl rfl rfl ?_
      refine Z_iload_n 38 rfl rfl rfl ?_
      refine Z_iload 39 rfl rfl ?_
      refine Z_iadd 40 rfl ?_
      refine Z_callVlp (M' := M_W_read) 41 [17, 18, 19] rfl l_C_359 C_W_read (c_W_read l p.rp p.rz hZ r (i + u) hr (by omega)) ⟨by decide, (zEL.c (Or.inl rfl) (zEL.c (Or.inl rfl) (zEL.c (Or.inl rfl) zEL.n)))⟩ (Or.inl ⟨_, _, _, _, rfl, rfl⟩) rfl rfl rfl (Nat.le_of_ble_eq_true rfl) ⟨rfl, rfl, Nat.le_of_ble_eq_true rfl, Nat.le_of_ble_eq_true rfl⟩ ⟨Nat.zero_le _, Nat.zero_le _⟩ ?_
      rw [hrd]
      refine Z_aload_n 42 rfl rfl rfl ?_
      refine Z_callVlp (M' := M_C_sampleHere) 43 isC rfl l_C_293 C_C_sampleHere (c_C_sampleHere l p rj (sd kd (p.t.2.1 j) (p.t.2.2.1 j) (ah p.t j) u) w g q q2 sm co h hsb) (emC ..) (Or.inl ⟨_, _, _, _, rfl, rfl⟩) rfl rfl rfl (Nat.le_of_ble_eq_true rfl) ⟨rfl, rfl, Nat.le_of_ble_eq_true rfl, Nat.le_of_ble_eq_true rfl⟩ ⟨Nat.zero_le _, Nat.zero_le _⟩ ?_
      refine Z_lc_eq 44 rfl rfl (tgt := 92) rfl (by omega) (by omega) (fun c86 => ?_) (fun c86 => ?_)
      · refine Z_iinc 48 rfl rfl (Nat.le_of_ble_eq_true rfl) (lv' := [(9, .int _), (0, .ref _), (1, .int _), (2, .int _), (3, .int _), (4, .int _), (6, .int _), (7, .int _), (8, .int _)]) rfl ?_
        refine Z_goto 49 rfl (tgt := 36) rfl ?_
        refine Z_pick [0, 1, 2, 3, 4, 6, 7, 8, 9] (lv' := [(0, .ref _), (1, .int _), (2, .int _), (3, .int _), (4, .int _), (6, .int _), (7, .int _), (8, .int _), (9, .int _)]) rfl ?_
        exact ih (u + 1) _ (by omega) (by omega) (by omega) (fun x x1 x2 => by
          by_cases ex : x = u
          · rw [ex]; omega
          · exact h5 x x1 (by omega))
      · refine Z_iconst 46 rfl ?_
        refine Z_zret 47 rfl rfl rfl ⟨Nat.le_refl _, Nat.le_refl _⟩ ?_
        exact ⟨bF (fun z => by have := z u h2 (by omega); omega), _, rfl⟩
theorem c_C_isSeenBy (s : SS) (h : PV p) (kd r i n j : Int) (hk : 0 ≤ kd ∧ kd ≤ 5) (hr : 0 ≤ r ∧ r < 4) (hj : 0 ≤ j ∧ j < p.t.2.2.2) (hn : (1 ≤ n ∧ n ≤ 30) ∧ n ≤ p.t.2.1 j + 1) (hi : 0 ≤ i ∧ i ≤ p.rz r - n) : Con l M_C_isSeenBy R_C_isSeenBy 0 0 false [.ref 0, .int (iI kd), .int (iI r), .int (iI i), .int (iI n), .int (iI j)] (eC p rj s w g q q2 sm co) (zAb (seeP p.t p.s p.rp r i n j kd) (fun m => ∃ s', m = eC p rj s' w g q q2 sm co)) := by
  have h1 := h.1.1.1
  refine Con.of_Z (by decide) D_C_isSeenBy (Nat.le_of_ble_eq_true rfl) ?_
  refine Z_aload_n 0 rfl rfl rfl ?_
  refine Z_get 1 rfl f_C_14 rfl rfl ?_
  refine Z_iload 2 rfl rfl ?_
  refine Z_callVip (M' := M_T_longOf) 3 [1, 2, 3, 4] rfl l_C_125 C_T_longOf (c_T_longOf l p.t j (by omega)) ⟨by decide, (zEL.c (Or.inl rfl) (zEL.c (Or.inl rfl) (zEL.c (Or.inl rfl) (zEL.c (Or.inl rfl) zEL.n))))⟩ (Or.inl ⟨_, _, _, _, rfl, rfl⟩) rfl rfl rfl (Nat.le_of_ble_eq_true rfl) ⟨rfl, rfl, Nat.le_of_ble_eq_true rfl, Nat.le_of_ble_eq_true rfl⟩ ⟨Nat.zero_le _, Nat.zero_le _⟩ ?_
  refine Z_istore 4 rfl (Nat.le_of_ble_eq_true rfl) (lv' := [(6, .int _), (0, .ref _), (1, .int _), (2, .int _), (3, .int _), (4, .int _), (5, .int _)]) rfl ?_
  refine Z_aload_n 5 rfl rfl rfl ?_
  refine Z_get 6 rfl f_C_14 rfl rfl ?_
  refine Z_iload 7 rfl rfl ?_
  refine Z_callVip (M' := M_T_riseOf) 8 [1, 2, 3, 4] rfl l_C_128 C_T_riseOf (c_T_riseOf l p.t j (by omega)) ⟨by decide, (zEL.c (Or.inl rfl) (zEL.c (Or.inl rfl) (zEL.c (Or.inl rfl) (zEL.c (Or.inl rfl) zEL.n))))⟩ (Or.inl ⟨_, _, _, _, rfl, rfl⟩) rfl rfl rfl (Nat.le_of_ble_eq_true rfl) ⟨rfl, rfl, Nat.le_of_ble_eq_true rfl, Nat.le_of_ble_eq_true rfl⟩ ⟨Nat.zero_le _, Nat.zero_le _⟩ ?_
  refine Z_istore 9 rfl (Nat.le_of_ble_eq_true rfl) (lv' := [(7, .int _), (6, .int _), (0, .ref _), (1, .int _), (2, .int _), (3, .int _), (4, .int _), (5, .int _)]) rfl ?_
  refine Z_aload_n 10 rfl rfl rfl ?_
  refine Z_get 11 rfl f_C_14 rfl rfl ?_
  refine Z_iload 12 rfl rfl ?_
  refine Z_callVip (M' := M_T_liftOf) 13 [1, 2, 3, 4] rfl l_C_142 C_T_liftOf (c_T_liftOf l p.t h.1.1 j j (by omega) (by omega)) ⟨by decide, (zEL.c (Or.inl rfl) (zEL.c (Or.inl rfl) (zEL.c (Or.inl rfl) (zEL.c (Or.inl rfl) zEL.n))))⟩ (Or.inl ⟨_, _, _, _, rfl, rfl⟩) rfl rfl rfl (Nat.le_of_ble_eq_true rfl) ⟨rfl, rfl, Nat.le_of_ble_eq_true rfl, Nat.le_of_ble_eq_true rfl⟩ ⟨Nat.zero_le _, Nat.zero_le _⟩ ?_
  refine Z_istore 14 rfl (Nat.le_of_ble_eq_true rfl) (lv' := [(8, .int _), (7, .int _), (6, .int _), (0, .ref _), (1, .int _), (2, .int _), (3, .int _), (4, .int _), (5, .int _)]) rfl ?_
  refine Z_iconst 15 rfl ?_
  refine Z_istore 16 rfl (Nat.le_of_ble_eq_true rfl) (lv' := [(9, .int _), (8, .int _), (7, .int _), (6, .int _), (0, .ref _), (1, .int _), (2, .int _), (3, .int _), (4, .int _), (5, .int _)]) rfl ?_
  refine Z_pick [0, 1, 2, 3, 4, 6, 7, 8, 9] (lv' := [(0, .ref _), (1, .int _), (2, .int _), (3, .int _), (4, .int _), (6, .int _), (7, .int _), (8, .int _), (9, .int _)]) rfl ?_
  exact lp_C_isSeenBy l p rj w g q q2 sm co s h kd r i n j hk hr hj hn hi 31 0 s (by omega) (by omega) (by omega) (fun x x1 x2 => by omega)
theorem lp_C_seen (h : PV p) (r i n j : Int) (hr : 0 ≤ r ∧ r < 4) (hj : 0 ≤ j ∧ j < p.t.2.2.2) (hn : (1 ≤ n ∧ n ≤ 30) ∧ n ≤ p.t.2.1 j + 1) (hi : 0 ≤ i ∧ i ≤ p.rz r - n) : ∀ (d : Nat) (k : Int) (s : SS), 0 ≤ k → k ≤ 6 → 6 - k < d → Z (l, M_C_seen, R_C_seen, (0, 0), false, zAi (seeI p.t p.s p.rp r i n j 6).toInt (EC rj p)) 0 0 (eC p rj s w g q q2 sm co) 90 [(0, .ref 0), (1, .int (iI r)), (2, .int (iI i)), (3, .int (iI n)), (4, .int (iI j)), (5, .int (seeI p.t p.s p.rp r i n j k)), (6, .int (iI k))] [] := by
  intro d
  induction d with
  | zero => intro k s h2 h3 h4; omega
  | succ d ih =>
    intro k s h2 h3 h4
    have e := seeI_s p.t p.s p.rp r i n j h2
    refine Z_iload 48 rfl rfl ?_
    refine Z_bipush 49 rfl rfl ?_
    refine Z_icmp_ge 50 rfl (tgt := 126) rfl (by omega) (by omega) (fun c94 => ?_) (fun c94 => ?_)
    · refine Z_iload 67 rfl rfl ?_
      refine Z_iret 68 rfl rfl ⟨Nat.le_refl _, Nat.le_refl _⟩ ?_
      exact ⟨by rw [show k = 6 by omega, iI_o], _, _, _, _, _, _, _, rfl⟩
    · refine Z_aload_n 51 rfl rfl rfl ?_
      refine Z_iload 52 rfl rfl ?_
      refine Z_iload_n 53 rfl rfl rfl ?_
      refine Z_iload_n 54 rfl rfl rfl ?_
      refine Z_iload_n 55 rfl rfl rfl ?_
      refine Z_iload 56 rfl rfl ?_
      refine Z_callVb (M' := M_C_isSeenBy) 57 isC rfl l_C_329 C_C_isSeenBy (c_C_isSeenBy l p rj w g q q2 sm co s h k r i n j (by omega) hr hj hn hi) (emC ..) (Or.inl ⟨_, _, _, _, rfl, rfl⟩) rfl rfl rfl (Nat.le_of_ble_eq_true rfl) ⟨rfl, rfl, Nat.le_of_ble_eq_true rfl, Nat.le_of_ble_eq_true rfl⟩ ⟨Nat.zero_le _, Nat.zero_le _⟩ (fun out hq => ?_)
      obtain ⟨s', rfl⟩ := hq
      refine Z_mem (mgC ..) ?_
      refine Z_ifb_eq 58 rfl (tgt := 120) rfl (fun c108 => ?_) (fun c108 => ?_)
      · refine Z_iinc 65 rfl rfl (Nat.le_of_ble_eq_true rfl) (lv' := [(6, .int _), (0, .ref _), (1, .int _), (2, .int _), (3, .int _), (4, .int _), (5, .int _)]) rfl ?_
        refine Z_goto 66 rfl (tgt := 90) rfl ?_
        refine Z_pick [0, 1, 2, 3, 4, 5, 6] (lv' := [(0, .ref _), (1, .int _), (2, .int _), (3, .int _), (4, .int _), (5, .int _), (6, .int _)]) rfl ?_
        have hz := ih (k + 1) s' (by omega) (by omega) (by omega)
        first | (rw [e, cif_t c108] at hz; exact hz) | (rw [e, cif_f c108] at hz; exact hz)
      · refine Z_iload 59 rfl rfl ?_
        refine Z_iconst 60 rfl ?_
        refine Z_iload 61 rfl rfl ?_
        refine Z_ishl 62 rfl ?_
        refine Z_ior 63 rfl ?_
        refine Z_istore 64 rfl (Nat.le_of_ble_eq_true rfl) (lv' := [(5, .int _), (0, .ref _), (1, .int _), (2, .int _), (3, .int _), (4, .int _), (6, .int _)]) rfl ?_
        refine Z_iinc 65 rfl rfl (Nat.le_of_ble_eq_true rfl) (lv' := [(6, .int _), (5, .int _), (0, .ref _), (1, .int _), (2, .int _), (3, .int _), (4, .int _)]) rfl ?_
        refine Z_goto 66 rfl (tgt := 90) rfl ?_
        refine Z_pick [0, 1, 2, 3, 4, 5, 6] (lv' := [(0, .ref _), (1, .int _), (2, .int _), (3, .int _), (4, .int _), (5, .int _), (6, .int _)]) rfl ?_
        have hz := ih (k + 1) s' (by omega) (by omega) (by omega)
        first | (rw [e, cif_t c108] at hz; exact hz) | (rw [e, cif_f c108] at hz; exact hz)
theorem c_C_seen (s : SS) (h : PV p) (r i n j : Int) (hr : inI r) (hi : inI i) (hn : inI n) (hj : inI j) : Con l M_C_seen R_C_seen 0 0 false [.ref 0, .int (iI r), .int (iI i), .int (iI n), .int (iI j)] (eC p rj s w g q q2 sm co) (zAi (seeF p.t p.s p.rp p.rz r i n j) (EC rj p)) := by
  have hZ : ZB p.rz := h.2.2.2.2.2.2.2.2
  have hzr := hZ r
  have h1 := h.1.1.1
  have b2 := h.1.1.2.2.1 j
  refine Con.of_Z (by decide) D_C_seen (Nat.le_of_ble_eq_true rfl) ?_
  refine Z_aload_n 0 rfl rfl rfl ?_
  refine Z_get 1 rfl f_C_46 rfl rfl ?_
  refine Z_iload_n 2 rfl rfl rfl ?_
  refine Z_callVbp (M' := M_W_mayHave) 3 [17, 18, 19] rfl l_C_310 C_W_mayHave (c_W_mayHave l p.rp p.rz r hr) ⟨by decide, (zEL.c (Or.inl rfl) (zEL.c (Or.inl rfl) (zEL.c (Or.inl rfl) zEL.n)))⟩ (Or.inl ⟨_, _, _, _, rfl, rfl⟩) rfl rfl rfl (Nat.le_of_ble_eq_true rfl) ⟨rfl, rfl, Nat.le_of_ble_eq_true rfl, Nat.le_of_ble_eq_true rfl⟩ ⟨Nat.zero_le _, Nat.zero_le _⟩ ?_
  refine Z_ifb_eq 4 rfl (tgt := 23) rfl (fun c8 => ?_) (fun c8 => ?_)
  · refine Z_iconst 10 rfl ?_
    refine Z_iret 11 rfl rfl ⟨Nat.le_refl _, Nat.le_refl _⟩ ?_
    exact ⟨by unfold seeF; (repeat (first | rw [cif_t (by first | assumption | omega)] | rw [cif_f (by first | assumption | omega)])), _, _, _, _, _, _, _, rfl⟩
  · refine Z_aload_n 5 rfl rfl rfl ?_
    refine Z_get 6 rfl f_C_14 rfl rfl ?_
    refine Z_iload 7 rfl rfl ?_
    refine Z_callVbp (M' := M_T_has) 8 [1, 2, 3, 4] rfl l_C_117 C_T_has (c_T_has l p.t h.1.1 j hj) ⟨by decide, (zEL.c (Or.inl rfl) (zEL.c (Or.inl rfl) (zEL.c (Or.inl rfl) (zEL.c (Or.inl rfl) zEL.n))))⟩ (Or.inl ⟨_, _, _, _, rfl, rfl⟩) rfl rfl rfl (Nat.le_of_ble_eq_true rfl) ⟨rfl, rfl, Nat.le_of_ble_eq_true rfl, Nat.le_of_ble_eq_true rfl⟩ ⟨Nat.zero_le _, Nat.zero_le _⟩ ?_
    refine Z_ifb_ne 9 rfl (tgt := 25) rfl (fun c20 => ?_) (fun c20 => ?_)
    · refine Z_aload_n 12 rfl rfl rfl ?_
      refine Z_get 13 rfl f_C_46 rfl rfl ?_
      refine Z_iload_n 14 rfl rfl rfl ?_
      refine Z_callVbp (M' := M_W_has) 15 [17, 18, 19] rfl l_C_313 C_W_has (c_W_has l p.rp p.rz hZ r hr) ⟨by decide, (zEL.c (Or.inl rfl) (zEL.c (Or.inl rfl) (zEL.c (Or.inl rfl) zEL.n)))⟩ (Or.inl ⟨_, _, _, _, rfl, rfl⟩) rfl rfl rfl (Nat.le_of_ble_eq_true rfl) ⟨rfl, rfl, Nat.le_of_ble_eq_true rfl, Nat.le_of_ble_eq_true rfl⟩ ⟨Nat.zero_le _, Nat.zero_le _⟩ ?_
      refine Z_ifb_ne 16 rfl (tgt := 39) rfl (fun c33 => ?_) (fun c33 => ?_)
      · refine Z_iload_n 19 rfl rfl rfl ?_
        refine Z_iconst 20 rfl ?_
        refine Z_icmp_lt 21 rfl (tgt := 65) rfl (by omega) (by omega) (fun c41 => ?_) (fun c41 => ?_)
        · refine Z_bipush 33 rfl rfl ?_
          refine Z_iret 34 rfl rfl ⟨Nat.le_refl _, Nat.le_refl _⟩ ?_
          exact ⟨by unfold seeF; (repeat (first | rw [cif_t (by first | assumption | omega)] | rw [cif_f (by first | assumption | omega)])), _, _, _, _, _, _, _, rfl⟩
        · refine Z_iload_n 22 rfl rfl rfl ?_
          refine Z_bipush 23 rfl rfl ?_
          refine Z_icmp_gt 24 rfl (tgt := 65) rfl (by omega) (by omega) (fun c47 => ?_) (fun c47 => ?_)
          · refine Z_bipush 33 rfl rfl ?_
            refine Z_iret 34 rfl rfl ⟨Nat.le_refl _, Nat.le_refl _⟩ ?_
            exact ⟨by unfold seeF; (repeat (first | rw [cif_t (by first | assumption | omega)] | rw [cif_f (by first | assumption | omega)])), _, _, _, _, _, _, _, rfl⟩
          · refine Z_iload_n 25 rfl rfl rfl ?_
            refine Z_aload_n 26 rfl rfl rfl ?_
            refine Z_get 27 rfl f_C_14 rfl rfl ?_
            refine Z_iload 28 rfl rfl ?_
            refine Z_callVip (M' := M_T_longOf) 29 [1, 2, 3, 4] rfl l_C_125 C_T_longOf (c_T_longOf l p.t j (by omega)) ⟨by decide, (zEL.c (Or.inl rfl) (zEL.c (Or.inl rfl) (zEL.c (Or.inl rfl) (zEL.c (Or.inl rfl) zEL.n))))⟩ (Or.inl ⟨_, _, _, _, rfl, rfl⟩) rfl rfl rfl (Nat.le_of_ble_eq_true rfl) ⟨rfl, rfl, Nat.le_of_ble_eq_true rfl, Nat.le_of_ble_eq_true rfl⟩ ⟨Nat.zero_le _, Nat.zero_le _⟩ ?_
            refine Z_iconst 30 rfl ?_
            refine Z_iadd 31 rfl ?_
            refine Z_icmp_le 32 rfl (tgt := 68) rfl (by omega) (by omega) (fun c62 => ?_) (fun c62 => ?_)
            · refine Z_aload_n 35 rfl rfl rfl ?_
              refine Z_get 36 rfl f_C_46 rfl rfl ?_
              refine Z_iload_n 37 rfl rfl rfl ?_
              refine Z_iload_n 38 rfl rfl rfl ?_
              refine Z_iload_n 39 rfl rfl rfl ?_
              refine Z_callVbp (M' := M_W_hasPlaces) 40 [17, 18, 19] rfl l_C_326 C_W_hasPlaces (c_W_hasPlaces l p.rp p.rz hZ r i n (by omega) hi (by omega)) ⟨by decide, (zEL.c (Or.inl rfl) (zEL.c (Or.inl rfl) (zEL.c (Or.inl rfl) zEL.n)))⟩ (Or.inl ⟨_, _, _, _, rfl, rfl⟩) rfl rfl rfl (Nat.le_of_ble_eq_true rfl) ⟨rfl, rfl, Nat.le_of_ble_eq_true rfl, Nat.le_of_ble_eq_true rfl⟩ ⟨Nat.zero_le _, Nat.zero_le _⟩ ?_
              refine Z_ifb_ne 41 rfl (tgt := 84) rfl (fun c78 => ?_) (fun c78 => ?_)
              · refine Z_iconst 44 rfl ?_
                refine Z_istore 45 rfl (Nat.le_of_ble_eq_true rfl) (lv' := [(5, .int _), (0, .ref _), (1, .int _), (2, .int _), (3, .int _), (4, .int _)]) rfl ?_
                refine Z_iconst 46 rfl ?_
                refine Z_istore 47 rfl (Nat.le_of_ble_eq_true rfl) (lv' := [(6, .int _), (5, .int _), (0, .ref _), (1, .int _), (2, .int _), (3, .int _), (4, .int _)]) rfl ?_
                refine Z_pick [0, 1, 2, 3, 4, 5, 6] (lv' := [(0, .ref _), (1, .int _), (2, .int _), (3, .int _), (4, .int _), (5, .int _), (6, .int _)]) rfl ?_
                unfold seeF
                rw [cif_t (by omega), cif_t (by omega), cif_t (by omega), cif_t (by omega)]
                exact lp_C_seen l p rj w g q q2 sm co h r i n j (by omega) (by omega) (by omega) (by omega) 7 0 s (by omega) (by omega) (by omega)
              · refine Z_bipush 42 rfl rfl ?_
                refine Z_iret 43 rfl rfl ⟨Nat.le_refl _, Nat.le_refl _⟩ ?_
                exact ⟨by unfold seeF; (repeat (first | rw [cif_t (by first | assumption | omega)] | rw [cif_f (by first | assumption | omega)])), _, _, _, _, _, _, _, rfl⟩
            · refine Z_bipush 33 rfl rfl ?_
              refine Z_iret 34 rfl rfl ⟨Nat.le_refl _, Nat.le_refl _⟩ ?_
              exact ⟨by unfold seeF; (repeat (first | rw [cif_t (by first | assumption | omega)] | rw [cif_f (by first | assumption | omega)])), _, _, _, _, _, _, _, rfl⟩
      · refine Z_bipush 17 rfl rfl ?_
        refine Z_iret 18 rfl rfl ⟨Nat.le_refl _, Nat.le_refl _⟩ ?_
        exact ⟨by unfold seeF; (repeat (first | rw [cif_t (by first | assumption | omega)] | rw [cif_f (by first | assumption | omega)])), _, _, _, _, _, _, _, rfl⟩
    · refine Z_iconst 10 rfl ?_
      refine Z_iret 11 rfl rfl ⟨Nat.le_refl _, Nat.le_refl _⟩ ?_
      exact ⟨by unfold seeF; (repeat (first | rw [cif_t (by first | assumption | omega)] | rw [cif_f (by first | assumption | omega)])), _, _, _, _, _, _, _, rfl⟩
theorem c_C_list (s : SS) (h : PV p) (r n : Int) (hr : inI r) (hn : inI n) : Con l M_C_list R_C_list 0 0 false [.ref 0, .int (iI r), .int (iI n)] (eC p rj s w g q q2 sm co) (zAi (listF p.rp p.rz r n).1 (EC rj (p.1, p.2.1, p.2.2.1, p.2.2.2.1, p.2.2.2.2.1, p.2.2.2.2.2.1, p.2.2.2.2.2.2.1, p.2.2.2.2.2.2.2.1, (listF p.rp p.rz r n).2.1, (listF p.rp p.rz r n).2.2))) := by
  have hZ : ZB p.rz := h.2.2.2.2.2.2.2.2
  refine Con.of_Z (by decide) D_C_list (Nat.le_of_ble_eq_true rfl) ?_
  refine Z_aload_n 0 rfl rfl rfl ?_
  refine Z_get 1 rfl f_C_46 rfl rfl ?_
  refine Z_iload_n 2 rfl rfl rfl ?_
  refine Z_callVbp (M' := M_W_mayHave) 3 [17, 18, 19] rfl l_C_310 C_W_mayHave (c_W_mayHave l p.rp p.rz r hr) ⟨by decide, (zEL.c (Or.inl rfl) (zEL.c (Or.inl rfl) (zEL.c (Or.inl rfl) zEL.n)))⟩ (Or.inl ⟨_, _, _, _, rfl, rfl⟩) rfl rfl rfl (Nat.le_of_ble_eq_true rfl) ⟨rfl, rfl, Nat.le_of_ble_eq_true rfl, Nat.le_of_ble_eq_true rfl⟩ ⟨Nat.zero_le _, Nat.zero_le _⟩ ?_
  refine Z_ifb_ne 4 rfl (tgt := 13) rfl (fun c8 => ?_) (fun c8 => ?_)
  · refine Z_iload_n 7 rfl rfl rfl ?_
    refine Z_bipush 8 rfl rfl ?_
    refine Z_icmp_le 9 rfl (tgt := 22) rfl (by omega) (by omega) (fun c16 => ?_) (fun c16 => ?_)
    · refine Z_iload_n 12 rfl rfl rfl ?_
      refine Z_if_ge 13 rfl (tgt := 29) rfl (by omega) (fun c23 => ?_) (fun c23 => ?_)
      · refine Z_aload_n 16 rfl rfl rfl ?_
        refine Z_get 17 rfl f_C_46 rfl rfl ?_
        refine Z_iload_n 18 rfl rfl rfl ?_
        refine Z_iload_n 19 rfl rfl rfl ?_
        refine Z_callVv (M' := M_W_make) 20 [17, 18, 19] rfl l_C_356 C_W_make (c_W_make l p.rp p.rz hZ r n (by omega) (by omega)) ⟨by decide, (zEL.c (Or.inl rfl) (zEL.c (Or.inl rfl) (zEL.c (Or.inl rfl) zEL.n)))⟩ (Or.inl ⟨_, _, _, _, rfl, rfl⟩) rfl rfl rfl (Nat.le_of_ble_eq_true rfl) ⟨rfl, rfl, Nat.le_of_ble_eq_true rfl, Nat.le_of_ble_eq_true rfl⟩ ⟨Nat.zero_le _, Nat.zero_le _⟩ (fun out hq => ?_)
        obtain rfl := hq
        refine Z_mem (show _ = eC (p.1, p.2.1, p.2.2.1, p.2.2.2.1, p.2.2.2.2.1, p.2.2.2.2.2.1, p.2.2.2.2.2.2.1, p.2.2.2.2.2.2.2.1, zer p.rp r n, uI p.rz r n) rj s w g q q2 sm co from rfl) ?_
        refine Z_iconst 21 rfl ?_
        refine Z_iret 22 rfl rfl ⟨Nat.le_refl _, Nat.le_refl _⟩ ?_
        exact ⟨by unfold listF; (repeat (first | rw [cif_t (by first | assumption | omega)] | rw [cif_f (by first | assumption | omega)])), s, w, g, q, q2, sm, co, by unfold listF; (repeat (first | rw [cif_t (by first | assumption | omega)] | rw [cif_f (by first | assumption | omega)])) <;> rfl⟩
      · refine Z_bipush 14 rfl rfl ?_
        refine Z_iret 15 rfl rfl ⟨Nat.le_refl _, Nat.le_refl _⟩ ?_
        exact ⟨by unfold listF; (repeat (first | rw [cif_t (by first | assumption | omega)] | rw [cif_f (by first | assumption | omega)])), s, w, g, q, q2, sm, co, by unfold listF; (repeat (first | rw [cif_t (by first | assumption | omega)] | rw [cif_f (by first | assumption | omega)])) <;> rfl⟩
    · refine Z_bipush 10 rfl rfl ?_
      refine Z_iret 11 rfl rfl ⟨Nat.le_refl _, Nat.le_refl _⟩ ?_
      exact ⟨by unfold listF; (repeat (first | rw [cif_t (by first | assumption | omega)] | rw [cif_f (by first | assumption | omega)])), s, w, g, q, q2, sm, co, by unfold listF; (repeat (first | rw [cif_t (by first | assumption | omega)] | rw [cif_f (by first | assumption | omega)])) <;> rfl⟩
  · refine Z_iconst 5 rfl ?_
    refine Z_iret 6 rfl rfl ⟨Nat.le_refl _, Nat.le_refl _⟩ ?_
    exact ⟨by unfold listF; (repeat (first | rw [cif_t (by first | assumption | omega)] | rw [cif_f (by first | assumption | omega)])), s, w, g, q, q2, sm, co, by unfold listF; (repeat (first | rw [cif_t (by first | assumption | omega)] | rw [cif_f (by first | assumption | omega)])) <;> rfl⟩
theorem c_C_set (s : SS) (h : PV p) (r i v : Int) (hr : inI r) (hi : inI i) : Con l M_C_set R_C_set 0 0 false [.ref 0, .int (iI r), .int (iI i), .long (lI v)] (eC p rj s w g q q2 sm co) (zAi (setF p.rp p.rz r i v).1 (EC rj ((p.1, p.2.1, p.2.2.1, p.2.2.2.1, p.2.2.2.2.1, p.2.2.2.2.2.1, p.2.2.2.2.2.2.1, p.2.2.2.2.2.2.2.1, (setF p.rp p.rz r i v).2, p.2.2.2.2.2.2.2.2.2)))) := by
  have hZ : ZB p.rz := h.2.2.2.2.2.2.2.2
  refine Con.of_Z (by decide) D_C_set (Nat.le_of_ble_eq_true rfl) ?_
  refine Z_aload_n 0 rfl rfl rfl ?_
  refine Z_get 1 rfl f_C_46 rfl rfl ?_
  refine Z_iload_n 2 rfl rfl rfl ?_
  refine Z_callVbp (M' := M_W_mayHave) 3 [17, 18, 19] rfl l_C_310 C_W_mayHave (c_W_mayHave l p.rp p.rz r hr) ⟨by decide, (zEL.c (Or.inl rfl) (zEL.c (Or.inl rfl) (zEL.c (Or.inl rfl) zEL.n)))⟩ (Or.inl ⟨_, _, _, _, rfl, rfl⟩) rfl rfl rfl (Nat.le_of_ble_eq_true rfl) ⟨rfl, rfl, Nat.le_of_ble_eq_true rfl, Nat.le_of_ble_eq_true rfl⟩ ⟨Nat.zero_le _, Nat.zero_le _⟩ ?_
  refine Z_ifb_ne 4 rfl (tgt := 13) rfl (fun c8 => ?_) (fun c8 => ?_)
  · refine Z_aload_n 7 rfl rfl rfl ?_
    refine Z_get 8 rfl f_C_46 rfl rfl ?_
    refine Z_iload_n 9 rfl rfl rfl ?_
    refine Z_callVbp (M' := M_W_has) 10 [17, 18, 19] rfl l_C_313 C_W_has (c_W_has l p.rp p.rz hZ r hr) ⟨by decide, (zEL.c (Or.inl rfl) (zEL.c (Or.inl rfl) (zEL.c (Or.inl rfl) zEL.n)))⟩ (Or.inl ⟨_, _, _, _, rfl, rfl⟩) rfl rfl rfl (Nat.le_of_ble_eq_true rfl) ⟨rfl, rfl, Nat.le_of_ble_eq_true rfl, Nat.le_of_ble_eq_true rfl⟩ ⟨Nat.zero_le _, Nat.zero_le _⟩ ?_
    refine Z_ifb_ne 11 rfl (tgt := 27) rfl (fun c21 => ?_) (fun c21 => ?_)
    · refine Z_aload_n 14 rfl rfl rfl ?_
      refine Z_get 15 rfl f_C_46 rfl rfl ?_
      refine Z_iload_n 16 rfl rfl rfl ?_
      refine Z_iload_n 17 rfl rfl rfl ?_
      refine Z_callVbp (M' := M_W_hasPlace) 18 [17, 18, 19] rfl l_C_317 C_W_hasPlace (c_W_hasPlace l p.rp p.rz hZ r i hr hi) ⟨by decide, (zEL.c (Or.inl rfl) (zEL.c (Or.inl rfl) (zEL.c (Or.inl rfl) zEL.n)))⟩ (Or.inl ⟨_, _, _, _, rfl, rfl⟩) rfl rfl rfl (Nat.le_of_ble_eq_true rfl) ⟨rfl, rfl, Nat.le_of_ble_eq_true rfl, Nat.le_of_ble_eq_true rfl⟩ ⟨Nat.zero_le _, Nat.zero_le _⟩ ?_
      refine Z_ifb_ne 19 rfl (tgt := 42) rfl (fun c36x => ?_) (fun c36x => ?_)
      · unfold hasPl at c36x
        refine Z_aload_n 22 rfl rfl rfl ?_
        refine Z_get 23 rfl f_C_46 rfl rfl ?_
        refine Z_iload_n 24 rfl rfl rfl ?_
        refine Z_iload_n 25 rfl rfl rfl ?_
        refine Z_lload_n 26 rfl rfl rfl ?_
        refine Z_callVv (M' := M_W_write) 27 [17, 18, 19] rfl l_C_323 C_W_write (c_W_write l p.rp p.rz hZ r i v (by omega) hi) ⟨by decide, (zEL.c (Or.inl rfl) (zEL.c (Or.inl rfl) (zEL.c (Or.inl rfl) zEL.n)))⟩ (Or.inl ⟨_, _, _, _, rfl, rfl⟩) rfl rfl rfl (Nat.le_of_ble_eq_true rfl) ⟨rfl, rfl, Nat.le_of_ble_eq_true rfl, Nat.le_of_ble_eq_true rfl⟩ ⟨Nat.zero_le _, Nat.zero_le _⟩ (fun out hq => ?_)
        obtain rfl := hq
        refine Z_mem (show _ = eC ((p.1, p.2.1, p.2.2.1, p.2.2.2.1, p.2.2.2.2.1, p.2.2.2.2.2.1, p.2.2.2.2.2.2.1, p.2.2.2.2.2.2.2.1, uI p.rp (r * 30 + i) v, p.2.2.2.2.2.2.2.2.2)) rj s w g q q2 sm co by unfold wrP; rw [if_pos (by omega)]; rfl) ?_
        refine Z_iconst 28 rfl ?_
        refine Z_iret 29 rfl rfl ⟨Nat.le_refl _, Nat.le_refl _⟩ ?_
        exact ⟨by unfold setF; (repeat (first | rw [cif_t (by first | assumption | omega)] | rw [cif_f (by first | assumption | omega)])), s, w, g, q, q2, sm, co, by unfold setF; (repeat (first | rw [cif_t (by first | assumption | omega)] | rw [cif_f (by first | assumption | omega)])) <;> rfl⟩
      · unfold hasPl at c36x
        refine Z_bipush 20 rfl rfl ?_
        refine Z_iret 21 rfl rfl ⟨Nat.le_refl _, Nat.le_refl _⟩ ?_
        exact ⟨by unfold setF; (repeat (first | rw [cif_t (by first | assumption | omega)] | rw [cif_f (by first | assumption | omega)])), s, w, g, q, q2, sm, co, by unfold setF; (repeat (first | rw [cif_t (by first | assumption | omega)] | rw [cif_f (by first | assumption | omega)])) <;> rfl⟩
    · refine Z_bipush 12 rfl rfl ?_
      refine Z_iret 13 rfl rfl ⟨Nat.le_refl _, Nat.le_refl _⟩ ?_
      exact ⟨by unfold setF; (repeat (first | rw [cif_t (by first | assumption | omega)] | rw [cif_f (by first | assumption | omega)])), s, w, g, q, q2, sm, co, by unfold setF; (repeat (first | rw [cif_t (by first | assumption | omega)] | rw [cif_f (by first | assumption | omega)])) <;> rfl⟩
  · refine Z_iconst 5 rfl ?_
    refine Z_iret 6 rfl rfl ⟨Nat.le_refl _, Nat.le_refl _⟩ ?_
    exact ⟨by unfold setF; (repeat (first | rw [cif_t (by first | assumption | omega)] | rw [cif_f (by first | assumption | omega)])), s, w, g, q, q2, sm, co, by unfold setF; (repeat (first | rw [cif_t (by first | assumption | omega)] | rw [cif_f (by first | assumption | omega)])) <;> rfl⟩
theorem c_C_get (s : SS) (h : PV p) (r i : Int) (hr : inI r) (hi : inI i) : Con l M_C_get R_C_get 0 0 false [.ref 0, .int (iI r), .int (iI i)] (eC p rj s w g q q2 sm co) (zAl (getF p.rp p.rz r i) (EC rj p)) := by
  have hZ : ZB p.rz := h.2.2.2.2.2.2.2.2
  refine Con.of_Z (by decide) D_C_get (Nat.le_of_ble_eq_true rfl) ?_
  refine Z_aload_n 0 rfl rfl rfl ?_
  refine Z_get 1 rfl f_C_46 rfl rfl ?_
  refine Z_iload_n 2 rfl rfl rfl ?_
  refine Z_iload_n 3 rfl rfl rfl ?_
  refine Z_callVbp (M' := M_W_hasPlace) 4 [17, 18, 19] rfl l_C_317 C_W_hasPlace (c_W_hasPlace l p.rp p.rz hZ r i hr hi) ⟨by decide, (zEL.c (Or.inl rfl) (zEL.c (Or.inl rfl) (zEL.c (Or.inl rfl) zEL.n)))⟩ (Or.inl ⟨_, _, _, _, rfl, rfl⟩) rfl rfl rfl (Nat.le_of_ble_eq_true rfl) ⟨rfl, rfl, Nat.le_of_ble_eq_true rfl, Nat.le_of_ble_eq_true rfl⟩ ⟨Nat.zero_le _, Nat.zero_le _⟩ ?_
  refine Z_ifb_eq 5 rfl (tgt := 24) rfl (fun c9 => ?_) (fun c9 => ?_)
  · refine Z_ldc2 12 rfl k_C_182 (c := -9223372036854775808) rfl ?_
    refine Z_lret 13 rfl rfl ⟨Nat.le_refl _, Nat.le_refl _⟩ ?_
    exact ⟨by unfold getF; first | (rw [cif_f (show ¬ ((0 ≤ r ∧ r < 4) ∧ 0 ≤ i ∧ i < p.rz r) from c9)]; rfl) | (rw [cif_t (show (0 ≤ r ∧ r < 4) ∧ 0 ≤ i ∧ i < p.rz r from c9)]; unfold rdP; rw [if_pos (show (0 ≤ r ∧ r < 4) ∧ 0 ≤ i ∧ i < p.rz r from c9)]), _, _, _, _, _, _, _, rfl⟩
  · have hr2 : 0 ≤ r ∧ r < 4 := c9.1
    refine Z_aload_n 6 rfl rfl rfl ?_
    refine Z_get 7 rfl f_C_46 rfl rfl ?_
    refine Z_iload_n 8 rfl rfl rfl ?_
    refine Z_iload_n 9 rfl rfl rfl ?_
    refine Z_callVlp (M' := M_W_read) 10 [17, 18, 19] rfl l_C_359 C_W_read (c_W_read l p.rp p.rz hZ r i hr2 hi) ⟨by decide, (zEL.c (Or.inl rfl) (zEL.c (Or.inl rfl) (zEL.c (Or.inl rfl) zEL.n)))⟩ (Or.inl ⟨_, _, _, _, rfl, rfl⟩) rfl rfl rfl (Nat.le_of_ble_eq_true rfl) ⟨rfl, rfl, Nat.le_of_ble_eq_true rfl, Nat.le_of_ble_eq_true rfl⟩ ⟨Nat.zero_le _, Nat.zero_le _⟩ ?_
    refine Z_goto 11 rfl (tgt := 27) rfl ?_
    refine Z_lret 13 rfl rfl ⟨Nat.le_refl _, Nat.le_refl _⟩ ?_
    exact ⟨by unfold getF; first | (rw [cif_f (show ¬ ((0 ≤ r ∧ r < 4) ∧ 0 ≤ i ∧ i < p.rz r) from c9)]; rfl) | (rw [cif_t (show (0 ≤ r ∧ r < 4) ∧ 0 ≤ i ∧ i < p.rz r from c9)]; unfold rdP; rw [if_pos (show (0 ≤ r ∧ r < 4) ∧ 0 ≤ i ∧ i < p.rz r from c9)]), _, _, _, _, _, _, _, rfl⟩
theorem cpI_b {F G : Int → Int} {lo hi : Int} {n : Int} (hF : ∀ i, lo ≤ F i ∧ F i ≤ hi) (hG : ∀ i, lo ≤ G i ∧ G i ≤ hi) (i : Int) : lo ≤ cpI F G n i ∧ cpI F G n i ≤ hi := by
  unfold cpI
  split
  · exact hF i
  · exact hG i
theorem TV_cp {t u : TT} (h : TV t) (h' : TV u) : TV (tCp t u) := by
  have h1 := h'.1.1
  have hc : ∀ F G : Int → Int, ∀ i, 0 ≤ i → i < u.2.2.2 → cpI F G 12 i = F i := fun F G i i1 i2 => by unfold cpI; rw [if_pos (by omega)]
  refine ⟨⟨h1, fun i => cpI_b h'.1.2.1 h.1.2.1 i, fun i => cpI_b h'.1.2.2.1 h.1.2.2.1 i, fun i => cpI_b h'.1.2.2.2 h.1.2.2.2 i⟩, ?_, ?_⟩
  · have e : tot (tCp t u) = tot u := sI_c (fun i i1 i2 => hc _ _ i i1 i2)
    rw [e]
    exact h'.2.1
  · intro k k1 k2
    have k3 : k < u.2.2.2 := k2
    show mb (cpI u.1 t.1 12 k) (cpI u.2.1 t.2.1 12 k) (cpI u.2.2.1 t.2.2.1 12 k)
    rw [hc _ _ k k1 k3, hc _ _ k k1 k3, hc _ _ k k1 k3]
    exact h'.2.2 k k1 k3
def imgP (p : PS) : PS := (p.t, p.s, tCp p.pt p.t, cpI p.s p.ps 6, 1, p.2.2.2.2.2)
theorem c_C_image (s : SS) (h : PV p) : Con l M_C_image R_C_image 0 0 false [.ref 0] (eC p rj s w g q q2 sm co) (zAi p.t.2.2.2 (EC rj (imgP p))) := by
  refine Con.of_Z (by decide) D_C_image (Nat.le_of_ble_eq_true rfl) ?_
  refine Z_aload_n 0 rfl rfl rfl ?_
  refine Z_get 1 rfl f_C_22 rfl rfl ?_
  refine Z_aload_n 2 rfl rfl rfl ?_
  refine Z_get 3 rfl f_C_14 rfl rfl ?_
  refine Z_callVv (M' := M_T_become) 4 [6, 7, 8, 9, 1, 2, 3, 4] rfl l_C_354 C_T_become (c_T_become l p.pt p.t) ⟨by decide, (zEL.c (Or.inl rfl) (zEL.c (Or.inl rfl) (zEL.c (Or.inl rfl) (zEL.c (Or.inl rfl) (zEL.c (Or.inl rfl) (zEL.c (Or.inl rfl) (zEL.c (Or.inl rfl) (zEL.c (Or.inl rfl) zEL.n))))))))⟩ (Or.inl ⟨_, _, _, _, rfl, rfl⟩) rfl rfl rfl (Nat.le_of_ble_eq_true rfl) ⟨rfl, rfl, Nat.le_of_ble_eq_true rfl, Nat.le_of_ble_eq_true rfl⟩ ⟨Nat.zero_le _, Nat.zero_le _⟩ (fun out hq => ?_)
  obtain rfl := hq
  refine Z_mem (show _ = eC (p.t, p.s, tCp p.pt p.t, p.ps, p.ip, p.2.2.2.2.2) rj s w g q q2 sm co from rfl) ?_
  refine Z_aload_n 5 rfl rfl rfl ?_
  refine Z_get 6 rfl f_C_18 rfl rfl ?_
  refine Z_aload_n 7 rfl rfl rfl ?_
  refine Z_get 8 rfl f_C_25 rfl rfl ?_
  refine Z_callSv (M' := M_C_copy) 9 [5, 10] rfl l_C_91 C_C_copy (c_C_copy l 6 (by omega) p.s p.ps) ⟨by decide, (zEL.c (Or.inr ⟨_, _, rfl, rfl, by decide⟩) (zEL.c (Or.inl rfl) zEL.n))⟩ rfl rfl rfl (Nat.le_of_ble_eq_true rfl) ⟨rfl, rfl, Nat.le_of_ble_eq_true rfl, Nat.le_of_ble_eq_true rfl⟩ ⟨Nat.zero_le _, Nat.zero_le _⟩ (fun out hq => ?_)
  obtain rfl := hq
  refine Z_mem (show _ = eC (p.t, p.s, tCp p.pt p.t, cpI p.s p.ps 6, p.ip, p.2.2.2.2.2) rj s w g q q2 sm co from rfl) ?_
  refine Z_aload_n 10 rfl rfl rfl ?_
  refine Z_iconst 11 rfl ?_
  refine Z_put 12 rfl f_C_28 rfl (Nat.le_of_ble_eq_true rfl) (fun _ => ⟨rfl, rfl⟩) (fs' := []) (mem' := eC (imgP p) rj s w g q q2 sm co) rfl ?_
  refine Z_aload_n 13 rfl rfl rfl ?_
  refine Z_get 14 rfl f_C_14 rfl rfl ?_
  refine Z_callVip (M' := M_T_size) 15 [1, 2, 3, 4] rfl l_C_111 C_T_size (c_T_size l p.t) ⟨by decide, (zEL.c (Or.inl rfl) (zEL.c (Or.inl rfl) (zEL.c (Or.inl rfl) (zEL.c (Or.inl rfl) zEL.n))))⟩ (Or.inl ⟨_, _, _, _, rfl, rfl⟩) rfl rfl rfl (Nat.le_of_ble_eq_true rfl) ⟨rfl, rfl, Nat.le_of_ble_eq_true rfl, Nat.le_of_ble_eq_true rfl⟩ ⟨Nat.zero_le _, Nat.zero_le _⟩ ?_
  refine Z_iret 16 rfl rfl ⟨Nat.le_refl _, Nat.le_refl _⟩ ?_
  exact ⟨rfl, _, _, _, _, _, _, _, rfl⟩
def undP (p : PS) : PS := (tCp p.t p.pt, cpI p.ps p.s 6, p.2.2)
noncomputable def undF (p : PS) : Int × PS := cif (p.ip = 0) (-3, p) (p.pt.2.2.2, undP p)
theorem c_C_undo (s : SS) (h : PV p) : Con l M_C_undo R_C_undo 0 0 false [.ref 0] (eC p rj s w g q q2 sm co) (zAi (undF p).1 (EC rj (undF p).2)) := by
  have hip := h.2.2.2.1
  refine Con.of_Z (by decide) D_C_undo (Nat.le_of_ble_eq_true rfl) ?_
  refine Z_aload_n 0 rfl rfl rfl ?_
  refine Z_get 1 rfl f_C_28 rfl rfl ?_
  refine Z_if_ne 2 rfl (tgt := 10) rfl (by omega) (fun c4 => ?_) (fun c4 => ?_)
  · refine Z_aload_n 5 rfl rfl rfl ?_
    refine Z_get 6 rfl f_C_14 rfl rfl ?_
    refine Z_aload_n 7 rfl rfl rfl ?_
    refine Z_get 8 rfl f_C_22 rfl rfl ?_
    refine Z_callVv (M' := M_T_become) 9 [1, 2, 3, 4, 6, 7, 8, 9] rfl l_C_354 C_T_become (c_T_become l p.t p.pt) ⟨by decide, (zEL.c (Or.inl rfl) (zEL.c (Or.inl rfl) (zEL.c (Or.inl rfl) (zEL.c (Or.inl rfl) (zEL.c (Or.inl rfl) (zEL.c (Or.inl rfl) (zEL.c (Or.inl rfl) (zEL.c (Or.inl rfl) zEL.n))))))))⟩ (Or.inl ⟨_, _, _, _, rfl, rfl⟩) rfl rfl rfl (Nat.le_of_ble_eq_true rfl) ⟨rfl, rfl, Nat.le_of_ble_eq_true rfl, Nat.le_of_ble_eq_true rfl⟩ ⟨Nat.zero_le _, Nat.zero_le _⟩ (fun out hq => ?_)
    obtain rfl := hq
    refine Z_mem (show _ = eC (tCp p.t p.pt, p.s, p.2.2) rj s w g q q2 sm co from rfl) ?_
    refine Z_aload_n 10 rfl rfl rfl ?_
    refine Z_get 11 rfl f_C_25 rfl rfl ?_
    refine Z_aload_n 12 rfl rfl rfl ?_
    refine Z_get 13 rfl f_C_18 rfl rfl ?_
    refine Z_callSv (M' := M_C_copy) 14 [10, 5] rfl l_C_91 C_C_copy (c_C_copy l 6 (by omega) p.ps p.s) ⟨by decide, (zEL.c (Or.inr ⟨_, _, rfl, rfl, by decide⟩) (zEL.c (Or.inl rfl) zEL.n))⟩ rfl rfl rfl (Nat.le_of_ble_eq_true rfl) ⟨rfl, rfl, Nat.le_of_ble_eq_true rfl, Nat.le_of_ble_eq_true rfl⟩ ⟨Nat.zero_le _, Nat.zero_le _⟩ (fun out hq => ?_)
    obtain rfl := hq
    refine Z_mem (show _ = eC (undP p) rj s w g q q2 sm co from rfl) ?_
    refine Z_aload_n 15 rfl rfl rfl ?_
    refine Z_get 16 rfl f_C_14 rfl rfl ?_
    refine Z_callVip (M' := M_T_size) 17 [1, 2, 3, 4] rfl l_C_111 C_T_size (c_T_size l (tCp p.t p.pt)) ⟨by decide, (zEL.c (Or.inl rfl) (zEL.c (Or.inl rfl) (zEL.c (Or.inl rfl) (zEL.c (Or.inl rfl) zEL.n))))⟩ (Or.inl ⟨_, _, _, _, rfl, rfl⟩) rfl rfl rfl (Nat.le_of_ble_eq_true rfl) ⟨rfl, rfl, Nat.le_of_ble_eq_true rfl, Nat.le_of_ble_eq_true rfl⟩ ⟨Nat.zero_le _, Nat.zero_le _⟩ ?_
    refine Z_iret 18 rfl rfl ⟨Nat.le_refl _, Nat.le_refl _⟩ ?_
    exact ⟨by unfold undF; (repeat (first | rw [cif_t (by first | assumption | omega)] | rw [cif_f (by first | assumption | omega)])) <;> rfl, s, w, g, q, q2, sm, co, by unfold undF; (repeat (first | rw [cif_t (by first | assumption | omega)] | rw [cif_f (by first | assumption | omega)])) <;> rfl⟩
  · refine Z_bipush 3 rfl rfl ?_
    refine Z_iret 4 rfl rfl ⟨Nat.le_refl _, Nat.le_refl _⟩ ?_
    exact ⟨by unfold undF; (repeat (first | rw [cif_t (by first | assumption | omega)] | rw [cif_f (by first | assumption | omega)])) <;> rfl, s, w, g, q, q2, sm, co, by unfold undF; (repeat (first | rw [cif_t (by first | assumption | omega)] | rw [cif_f (by first | assumption | omega)])) <;> rfl⟩
theorem c_C_cause (s : SS) : Con l M_C_cause R_C_cause 0 0 false [.ref 0] (eC p rj s w g q q2 sm co) (zAi p.lc (fun m => m = eC p rj s w g q q2 sm co)) := by
  refine Con.of_Z (by decide) D_C_cause (Nat.le_of_ble_eq_true rfl) ?_
  refine Z_aload_n 0 rfl rfl rfl ?_
  refine Z_get 1 rfl f_C_39 rfl rfl ?_
  refine Z_iret 2 rfl rfl ⟨Nat.le_refl _, Nat.le_refl _⟩ ?_
  exact ⟨rfl, rfl⟩
theorem c_C_clear (s : SS) : Con l M_C_clear R_C_clear 0 0 false [.ref 0] (eC p rj s w g q q2 sm co) (zAi p.ts (EC rj ((p.1, p.2.1, p.2.2.1, p.2.2.2.1, p.2.2.2.2.1, p.2.2.2.2.2.1, p.tb, 0, p.2.2.2.2.2.2.2.2)))) := by
  refine Con.of_Z (by decide) D_C_clear (Nat.le_of_ble_eq_true rfl) ?_
  refine Z_aload_n 0 rfl rfl rfl ?_
  refine Z_get 1 rfl f_C_35 rfl rfl ?_
  refine Z_callVip (M' := M_D_size) 2 [11, 12, 13, 14, 15, 16] rfl l_C_162 C_D_size (c_D_size l p.tb p.ts rj) ⟨by decide, (zEL.c (Or.inl rfl) (zEL.c (Or.inl rfl) (zEL.c (Or.inl rfl) (zEL.c (Or.inl rfl) (zEL.c (Or.inl rfl) (zEL.c (Or.inl rfl) zEL.n))))))⟩ (Or.inl ⟨_, _, _, _, rfl, rfl⟩) rfl rfl rfl (Nat.le_of_ble_eq_true rfl) ⟨rfl, rfl, Nat.le_of_ble_eq_true rfl, Nat.le_of_ble_eq_true rfl⟩ ⟨Nat.zero_le _, Nat.zero_le _⟩ ?_
  refine Z_istore_n 3 rfl rfl (Nat.le_of_ble_eq_true rfl) (lv' := [(1, .int _), (0, .ref _)]) rfl ?_
  refine Z_aload_n 4 rfl rfl rfl ?_
  refine Z_get 5 rfl f_C_35 rfl rfl ?_
  refine Z_callVv (M' := M_D_empty) 6 [11, 12, 13, 14, 15, 16] rfl l_C_336 C_D_empty (c_D_empty l p.tb p.ts rj) ⟨by decide, (zEL.c (Or.inl rfl) (zEL.c (Or.inl rfl) (zEL.c (Or.inl rfl) (zEL.c (Or.inl rfl) (zEL.c (Or.inl rfl) (zEL.c (Or.inl rfl) zEL.n))))))⟩ (Or.inl ⟨_, _, _, _, rfl, rfl⟩) rfl rfl rfl (Nat.le_of_ble_eq_true rfl) ⟨rfl, rfl, Nat.le_of_ble_eq_true rfl, Nat.le_of_ble_eq_true rfl⟩ ⟨Nat.zero_le _, Nat.zero_le _⟩ (fun out hq => ?_)
  obtain rfl := hq
  refine Z_mem (show _ = eC ((p.1, p.2.1, p.2.2.1, p.2.2.2.1, p.2.2.2.2.1, p.2.2.2.2.2.1, p.tb, 0, p.2.2.2.2.2.2.2.2)) rj s w g q q2 sm co from rfl) ?_
  refine Z_iload_n 7 rfl rfl rfl ?_
  refine Z_iret 8 rfl rfl ⟨Nat.le_refl _, Nat.le_refl _⟩ ?_
  exact ⟨rfl, s, w, g, q, q2, sm, co, rfl⟩
theorem c_C_feed (s : SS) (h : PV p) (v : Int) (hv : inI v) : Con l M_C_feed R_C_feed 0 0 false [.ref 0, .int (iI v)] (eC p rj s w g q q2 sm co) (zAi (feedF p.tb p.ts v).1 (EC rj ((p.1, p.2.1, p.2.2.1, p.2.2.2.1, p.2.2.2.2.1, p.2.2.2.2.2.1, (feedF p.tb p.ts v).2.1, (feedF p.tb p.ts v).2.2, p.2.2.2.2.2.2.2.2)))) := by
  have hts := h.2.2.2.2.2.2.1
  refine Con.of_Z (by decide) D_C_feed (Nat.le_of_ble_eq_true rfl) ?_
  refine Z_iload_n 0 rfl rfl rfl ?_
  refine Z_iconst 1 rfl ?_
  refine Z_icmp_lt 2 rfl (tgt := 11) rfl (by omega) (by omega) (fun c2 => ?_) (fun c2 => ?_)
  · refine Z_bipush 6 rfl rfl ?_
    refine Z_iret 7 rfl rfl ⟨Nat.le_refl _, Nat.le_refl _⟩ ?_
    exact ⟨by unfold feedF; (repeat (first | rw [cif_t (by first | assumption | omega)] | rw [cif_f (by first | assumption | omega)])), s, w, g, q, q2, sm, co, by unfold feedF; (repeat (first | rw [cif_t (by first | assumption | omega)] | rw [cif_f (by first | assumption | omega)])) <;> rfl⟩
  · refine Z_iload_n 3 rfl rfl rfl ?_
    refine Z_bipush 4 rfl rfl ?_
    refine Z_icmp_le 5 rfl (tgt := 14) rfl (by omega) (by omega) (fun c8 => ?_) (fun c8 => ?_)
    · refine Z_aload_n 8 rfl rfl rfl ?_
      refine Z_get 9 rfl f_C_35 rfl rfl ?_
      refine Z_callVip (M' := M_D_size) 10 [11, 12, 13, 14, 15, 16] rfl l_C_162 C_D_size (c_D_size l p.tb p.ts rj) ⟨by decide, (zEL.c (Or.inl rfl) (zEL.c (Or.inl rfl) (zEL.c (Or.inl rfl) (zEL.c (Or.inl rfl) (zEL.c (Or.inl rfl) (zEL.c (Or.inl rfl) zEL.n))))))⟩ (Or.inl ⟨_, _, _, _, rfl, rfl⟩) rfl rfl rfl (Nat.le_of_ble_eq_true rfl) ⟨rfl, rfl, Nat.le_of_ble_eq_true rfl, Nat.le_of_ble_eq_true rfl⟩ ⟨Nat.zero_le _, Nat.zero_le _⟩ ?_
      refine Z_bipush 11 rfl rfl ?_
      refine Z_icmp_lt 12 rfl (tgt := 29) rfl (by omega) (by omega) (fun c23 => ?_) (fun c23 => ?_)
      · refine Z_aload_n 15 rfl rfl rfl ?_
        refine Z_get 16 rfl f_C_35 rfl rfl ?_
        refine Z_iload_n 17 rfl rfl rfl ?_
        refine Z_callVv (M' := M_D_append) 18 [11, 12, 13, 14, 15, 16] rfl l_C_333 C_D_append (c_D_append l p.tb p.ts rj v (by omega)) ⟨by decide, (zEL.c (Or.inl rfl) (zEL.c (Or.inl rfl) (zEL.c (Or.inl rfl) (zEL.c (Or.inl rfl) (zEL.c (Or.inl rfl) (zEL.c (Or.inl rfl) zEL.n))))))⟩ (Or.inl ⟨_, _, _, _, rfl, rfl⟩) rfl rfl rfl (Nat.le_of_ble_eq_true rfl) ⟨rfl, rfl, Nat.le_of_ble_eq_true rfl, Nat.le_of_ble_eq_true rfl⟩ ⟨Nat.zero_le _, Nat.zero_le _⟩ (fun out hq => ?_)
        obtain rfl := hq
        refine Z_mem (show _ = eC ((p.1, p.2.1, p.2.2.1, p.2.2.2.1, p.2.2.2.2.1, p.2.2.2.2.2.1, uI p.tb p.ts v, p.ts + 1, p.2.2.2.2.2.2.2.2)) rj s w g q q2 sm co from rfl) ?_
        refine Z_aload_n 19 rfl rfl rfl ?_
        refine Z_get 20 rfl f_C_35 rfl rfl ?_
        refine Z_callVip (M' := M_D_size) 21 [11, 12, 13, 14, 15, 16] rfl l_C_162 C_D_size (c_D_size l (uI p.tb p.ts v) (p.ts + 1) rj) ⟨by decide, (zEL.c (Or.inl rfl) (zEL.c (Or.inl rfl) (zEL.c (Or.inl rfl) (zEL.c (Or.inl rfl) (zEL.c (Or.inl rfl) (zEL.c (Or.inl rfl) zEL.n))))))⟩ (Or.inl ⟨_, _, _, _, rfl, rfl⟩) rfl rfl rfl (Nat.le_of_ble_eq_true rfl) ⟨rfl, rfl, Nat.le_of_ble_eq_true rfl, Nat.le_of_ble_eq_true rfl⟩ ⟨Nat.zero_le _, Nat.zero_le _⟩ ?_
        refine Z_iret 22 rfl rfl ⟨Nat.le_refl _, Nat.le_refl _⟩ ?_
        exact ⟨by unfold feedF; (repeat (first | rw [cif_t (by first | assumption | omega)] | rw [cif_f (by first | assumption | omega)])), s, w, g, q, q2, sm, co, by unfold feedF; (repeat (first | rw [cif_t (by first | assumption | omega)] | rw [cif_f (by first | assumption | omega)])) <;> rfl⟩
      · refine Z_bipush 13 rfl rfl ?_
        refine Z_iret 14 rfl rfl ⟨Nat.le_refl _, Nat.le_refl _⟩ ?_
        exact ⟨by unfold feedF; (repeat (first | rw [cif_t (by first | assumption | omega)] | rw [cif_f (by first | assumption | omega)])), s, w, g, q, q2, sm, co, by unfold feedF; (repeat (first | rw [cif_t (by first | assumption | omega)] | rw [cif_f (by first | assumption | omega)])) <;> rfl⟩
    · refine Z_bipush 6 rfl rfl ?_
      refine Z_iret 7 rfl rfl ⟨Nat.le_refl _, Nat.le_refl _⟩ ?_
      exact ⟨by unfold feedF; (repeat (first | rw [cif_t (by first | assumption | omega)] | rw [cif_f (by first | assumption | omega)])), s, w, g, q, q2, sm, co, by unfold feedF; (repeat (first | rw [cif_t (by first | assumption | omega)] | rw [cif_f (by first | assumption | omega)])) <;> rfl⟩
end C11
