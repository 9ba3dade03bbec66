/-! the model: lists, the image, the tape's bytes -/
theorem MV_rp {p : MP} (h : MV p) {P' : Int → Int} (hP : ∀ x, inL (P' x)) : MV ((p.1, p.2.1, p.2.2.1, p.2.2.2.1, p.2.2.2.2.1, P', p.2.2.2.2.2.2)) := by
  obtain ⟨h1, h2, h3, h4, h5, h6, h7, h8⟩ := h
  exact ⟨h1, h2, h3, h4, h5, h6, hP, h8⟩
theorem layP_nn (P Zs : Int → Int) (r i k n a st : Int) (f : Int → Int) (h : Zs r ≤ i + k) (hk : k ≤ n) : layP P Zs r i k a st f = layP P Zs r i n a st f := by
  funext j
  unfold layP
  by_cases h2 : 0 ≤ i ∧ 30 * r + i ≤ j ∧ j < 30 * r + i + k ∧ j < 30 * r + Zs r
  · rw [cif_t h2, cif_t (by omega)]
  · rw [cif_f h2, cif_f (by omega)]
theorem layM_s (P Zs : Int → Int) (r i k a st : Int) (f : Int → Int) (hr : 0 ≤ r ∧ r < 4) (hi : 0 ≤ i ∧ i + k < Zs r) (hk : 0 ≤ k) : uI (layP P Zs r i k a st f) (30 * r + i + k) (f (a + k * st)) = layP P Zs r i (k + 1) a st f := by
  rw [← layP_s P Zs r i k a st f hr hi hk]
  unfold wrP
  rw [if_pos (by omega), show 30 * r + i + k = r * 30 + (i + k) by omega]
section M9
variable (l : Launch) (p : MP) (kw sm : Int → Int) (ma mf mw : Int) (cj : TT)
theorem c_M_isList (r : Int) (hr : inI r) : Con l M_M_isList R_M_isList 0 0 false [.int (iI r)] [] (zAb (0 ≤ r ∧ r < 4) (fun m => m = [])) := by
  refine Con.of_Z (by decide) D_M_isList (Nat.le_of_ble_eq_true rfl) ?_
  refine Z_iload_n 0 rfl rfl rfl ?_
  refine Z_i2l 1 rfl (by omega) ?_
  refine Z_lconst 2 rfl ?_
  refine Z_ldc2 3 rfl k_M_144 (c := 3) rfl ?_
  refine Z_callSbp (M' := M_M_in) 4 [] rfl l_M_80 C_M_in (c_M_in l _ _ _ (by omega) (by omega) (by omega)) ⟨List.nodup_nil, zEL.n⟩ rfl rfl rfl (Nat.le_of_ble_eq_true rfl) ⟨rfl, rfl, Nat.le_of_ble_eq_true rfl, Nat.le_of_ble_eq_true rfl⟩ ⟨Nat.zero_le _, Nat.zero_le _⟩ ?_
  refine Z_zret 5 rfl rfl (bI_nar _) ⟨Nat.le_refl _, Nat.le_refl _⟩ ?_
  exact ⟨congrArg (fun x => some (Value.int (iI x))) (bI_c (show (0 ≤ r ∧ r ≤ 3) ↔ (0 ≤ r ∧ r < 4) by omega)), rfl⟩
theorem lp_M_lay (h : MV p) (av bl r i a st n : Int) (hr : 0 ≤ r ∧ r < 4) (hi : inI i) (ho : layOk p.t a st n) (hz : 0 ≤ p.rz r) (h0 : 0 ≤ i ∨ n = 0) : ∀ (d : Nat) (k he fa li sl be ov : Int), 0 ≤ k → k ≤ n → n - k < d → (k = 0 ∨ i + k ≤ p.rz r) → Z (l, M_M_lay, R_M_lay, (0, 0), false, zAi (if n = 0 ∨ (0 ≤ i ∧ i ≤ p.rz r - n) then n else -13) (LM ((p.1, p.2.1, p.2.2.1, p.2.2.2.1, p.2.2.2.2.1, layP p.rp p.rz r i n a st (sampleF p.t p.s), p.2.2.2.2.2.2)) av bl kw sm ma mf mw cj)) 0 0 (eM ((p.1, p.2.1, p.2.2.1, p.2.2.2.1, p.2.2.2.2.1, layP p.rp p.rz r i k a st (sampleF p.t p.s), p.2.2.2.2.2.2)) he fa li sl be ov av bl kw sm ma mf mw cj) 94 [(0, .ref 0), (1, .int (iI r)), (2, .int (iI i)), (3, .int (iI a)), (4, .int (iI st)), (5, .int (iI n)), (6, .int (iI k))] [] := by
  have hZ : ZB p.rz := h.2.2.2.2.2.2.2
  have hzr := hZ r
  have ht := TV_tot h.1
  have ho2 := ho
  unfold layOk at ho2
  intro d
  induction d with
  | zero => intro k he fa li sl be ov h2 h3 h4; omega
  | succ d ih =>
    intro k he fa li sl be ov h2 h3 h4 h5
    have hP : MV ((p.1, p.2.1, p.2.2.1, p.2.2.2.1, p.2.2.2.2.1, layP p.rp p.rz r i k a st (sampleF p.t p.s), p.2.2.2.2.2.2)) := MV_rp h (layP_b h.2.2.2.2.2.2.1 (sampleF_b h.1 h.2.1))
    have hk : k < n → 0 ≤ k * st ∧ k * st ≤ (n - 1) * st := fun hkn => ⟨Int.mul_nonneg h2 (by omega), Int.mul_le_mul_of_nonneg_right (show k ≤ n - 1 by omega) (by omega)⟩
    refine Z_iload 50 rfl rfl ?_
    refine Z_iload 51 rfl rfl ?_
    have hk2 := hk
    refine Z_icmp_ge 52 rfl (tgt := 148) rfl (by omega) (by omega) (fun c98 => ?_) (fun c98 => ?_)
    · refine Z_iload 82 rfl rfl ?_
      refine Z_iret 83 rfl rfl ⟨Nat.le_refl _, Nat.le_refl _⟩ ?_
      exact ⟨by rw [if_pos (by omega)], _, _, _, _, _, _, by rw [show k = n by omega]⟩
    · refine Z_iload_n 53 rfl rfl rfl ?_
      refine Z_aload_n 54 rfl rfl rfl ?_
      refine Z_get 55 rfl f_M_56 rfl rfl ?_
      refine Z_iload_n 56 rfl rfl rfl ?_
      refine Z_ia 57 rfl rfl (by omega) (by decide) ?_
      refine Z_ci (show _ = p.rz r from rfl) ?_
      refine Z_iload 58 rfl rfl ?_
      refine Z_isub 59 rfl ?_
      refine Z_icmp_lt 60 rfl (tgt := 117) rfl (by omega) (by omega) (fun c111 => ?_) (fun c111 => ?_)
      · refine Z_aload_n 63 rfl rfl rfl ?_
        refine Z_get 64 rfl f_M_59 rfl rfl ?_
        refine Z_bipush 65 rfl rfl ?_
        refine Z_iload_n 66 rfl rfl rfl ?_
        refine Z_imul 67 rfl ?_
        refine Z_iload_n 68 rfl rfl rfl ?_
        refine Z_iadd 69 rfl ?_
        refine Z_iload 70 rfl rfl ?_
        refine Z_iadd 71 rfl ?_
        refine Z_aload_n 72 rfl rfl rfl ?_
        refine Z_iload_n 73 rfl rfl rfl ?_
        refine Z_iload 74 rfl rfl ?_
        refine Z_iload 75 rfl rfl ?_
        refine Z_imul 76 rfl ?_
        refine Z_iadd 77 rfl ?_
        have hk3 := hk2 (by omega)
        refine Z_callVl (M' := M_M_sampleAt) 78 isM rfl l_M_296 C_M_sampleAt (c_M_sampleAt l _ kw ma mf mw cj hP (show 0 < p.t.2.2.2 by omega) (a + k * st) he fa li sl be ov av bl sm (show 0 ≤ a + k * st ∧ a + k * st ≤ tot p.t by omega)) (emM ..) (Or.inl ⟨_, _, _, _, rfl, rfl⟩) rfl rfl rfl (Nat.le_of_ble_eq_true rfl) ⟨rfl, rfl, Nat.le_of_ble_eq_true rfl, Nat.le_of_ble_eq_true rfl⟩ ⟨Nat.zero_le _, Nat.zero_le _⟩ (fun out hq => ?_)
        obtain ⟨he', fa', li', sl', be', ov', rfl⟩ := hq
        refine Z_mem (mgM ..) ?_
        refine Z_cl (show _ = sampleF p.t p.s (a + k * st) from (sampleF_sV h.1 p.s ⟨by omega, by omega, by omega⟩).symm) ?_
        refine Z_las 79 rfl rfl (by omega) (by decide) (mem' := eM ((p.1, p.2.1, p.2.2.1, p.2.2.2.1, p.2.2.2.2.1, uI (layP p.rp p.rz r i k a st (sampleF p.t p.s)) (30 * r + i + k) (sampleF p.t p.s (a + k * st)), p.2.2.2.2.2.2)) he' fa' li' sl' be' ov' av bl kw sm ma mf mw cj) rfl ?_
        refine Z_iinc 80 rfl rfl (Nat.le_of_ble_eq_true rfl) (lv' := [(6, .int _), (0, .ref _), (1, .int _), (2, .int _), (3, .int _), (4, .int _), (5, .int _)]) rfl ?_
        refine Z_goto 81 rfl (tgt := 94) rfl ?_
        refine Z_pick [0, 1, 2, 3, 4, 5, 6] (lv' := [(0, .ref _), (1, .int _), (2, .int _), (3, .int _), (4, .int _), (5, .int _), (6, .int _)]) rfl ?_
        rw [layM_s p.rp p.rz r i k a st _ hr (by omega) h2]
        exact ih (k + 1) _ _ _ _ _ _ (by omega) (by omega) (by omega) (by omega)
      · refine Z_bipush 61 rfl rfl ?_
        refine Z_iret 62 rfl rfl ⟨Nat.le_refl _, Nat.le_refl _⟩ ?_
        exact ⟨by rw [if_neg (by omega)], _, _, _, _, _, _, by rw [layP_nn p.rp p.rz r i k n a st _ (by omega) h3]⟩
theorem c_M_lay (h : MV p) (r i a st n he fa li sl be ov av bl : Int) (hr : inI r) (hi : inI i) (ha : inI a) (hs : inI st) (hn : inI n) : Con l M_M_lay R_M_lay 0 0 false [.ref 0, .int (iI r), .int (iI i), .int (iI a), .int (iI st), .int (iI n)] (eM p he fa li sl be ov av bl kw sm ma mf mw cj) (zAi (layF p.t p.s p.rp p.rz r i a st n).1 (LM ((p.1, p.2.1, p.2.2.1, p.2.2.2.1, p.2.2.2.2.1, (layF p.t p.s p.rp p.rz r i a st n).2, p.2.2.2.2.2.2)) av bl kw sm ma mf mw cj)) := by
  have hZ : ZB p.rz := h.2.2.2.2.2.2.2
  have hzr := hZ r
  have h1 := h.1.1.1
  have ht := TV_tot h.1
  refine Con.of_Z (by decide) D_M_lay (Nat.le_of_ble_eq_true rfl) ?_
  refine Z_iload_n 0 rfl rfl rfl ?_
  refine Z_callSbp (M' := M_M_isList) 1 [] rfl l_M_307 C_M_isList (c_M_isList l _ (by omega)) ⟨List.nodup_nil, zEL.n⟩ rfl rfl rfl (Nat.le_of_ble_eq_true rfl) ⟨rfl, rfl, Nat.le_of_ble_eq_true rfl, Nat.le_of_ble_eq_true rfl⟩ ⟨Nat.zero_le _, Nat.zero_le _⟩ ?_
  refine Z_ifb_ne 2 rfl (tgt := 9) rfl (fun c4 => ?_) (fun c4 => ?_)
  · refine Z_aload_n 5 rfl rfl rfl ?_
    refine Z_get 6 rfl f_M_56 rfl rfl ?_
    refine Z_iload_n 7 rfl rfl rfl ?_
    refine Z_ia 8 rfl rfl (by omega) (by decide) ?_
    refine Z_if_ge 9 rfl (tgt := 21) rfl (by omega) (fun c15 => ?_) (fun c15 => ?_)
    · refine Z_aload_n 12 rfl rfl rfl ?_
      refine Z_iload_n 13 rfl rfl rfl ?_
      refine Z_callVbp (M' := M_M_isAngle) 14 isM rfl l_M_167 C_M_isAngle (c_M_isAngle l p he fa li sl be ov av bl kw sm ma mf mw cj h a ha) (emM ..) (Or.inl ⟨_, _, _, _, rfl, rfl⟩) rfl rfl rfl (Nat.le_of_ble_eq_true rfl) ⟨rfl, rfl, Nat.le_of_ble_eq_true rfl, Nat.le_of_ble_eq_true rfl⟩ ⟨Nat.zero_le _, Nat.zero_le _⟩ ?_
      refine Z_ifb_eq 15 rfl (tgt := 76) rfl (fun c26 => ?_) (fun c26 => ?_)
      · refine Z_bipush 40 rfl rfl ?_
        refine Z_iret 41 rfl rfl ⟨Nat.le_refl _, Nat.le_refl _⟩ ?_
        exact ⟨by unfold layF; rw [cif_t (by omega), cif_t (by omega), cif_f (by unfold layOk; omega)], _, _, _, _, _, _, by unfold layF; rw [cif_t (by omega), cif_t (by omega), cif_f (by unfold layOk; omega)]⟩
      · refine Z_iload 16 rfl rfl ?_
        refine Z_i2l 17 rfl (by omega) ?_
        refine Z_lconst 18 rfl ?_
        refine Z_ldc2 19 rfl k_M_161 (c := 60) rfl ?_
        refine Z_callSbp (M' := M_M_in) 20 [] rfl l_M_80 C_M_in (c_M_in l _ _ _ (by omega) (by omega) (by omega)) ⟨List.nodup_nil, zEL.n⟩ rfl rfl rfl (Nat.le_of_ble_eq_true rfl) ⟨rfl, rfl, Nat.le_of_ble_eq_true rfl, Nat.le_of_ble_eq_true rfl⟩ ⟨Nat.zero_le _, Nat.zero_le _⟩ ?_
        refine Z_ifb_eq 21 rfl (tgt := 76) rfl (fun c39 => ?_) (fun c39 => ?_)
        · refine Z_bipush 40 rfl rfl ?_
          refine Z_iret 41 rfl rfl ⟨Nat.le_refl _, Nat.le_refl _⟩ ?_
          exact ⟨by unfold layF; rw [cif_t (by omega), cif_t (by omega), cif_f (by unfold layOk; omega)], _, _, _, _, _, _, by unfold layF; rw [cif_t (by omega), cif_t (by omega), cif_f (by unfold layOk; omega)]⟩
        · refine Z_iload 22 rfl rfl ?_
          refine Z_i2l 23 rfl (by omega) ?_
          refine Z_lconst 24 rfl ?_
          refine Z_ldc2 25 rfl k_M_155 (c := 30) rfl ?_
          refine Z_callSbp (M' := M_M_in) 26 [] rfl l_M_80 C_M_in (c_M_in l _ _ _ (by omega) (by omega) (by omega)) ⟨List.nodup_nil, zEL.n⟩ rfl rfl rfl (Nat.le_of_ble_eq_true rfl) ⟨rfl, rfl, Nat.le_of_ble_eq_true rfl, Nat.le_of_ble_eq_true rfl⟩ ⟨Nat.zero_le _, Nat.zero_le _⟩ ?_
          refine Z_ifb_eq 27 rfl (tgt := 76) rfl (fun c52 => ?_) (fun c52 => ?_)
          · refine Z_bipush 40 rfl rfl ?_
            refine Z_iret 41 rfl rfl ⟨Nat.le_refl _, Nat.le_refl _⟩ ?_
            exact ⟨by unfold layF; rw [cif_t (by omega), cif_t (by omega), cif_f (by unfold layOk; omega)], _, _, _, _, _, _, by unfold layF; rw [cif_t (by omega), cif_t (by omega), cif_f (by unfold layOk; omega)]⟩
          · refine Z_iload 28 rfl rfl ?_
            refine Z_if_le 29 rfl (tgt := 79) rfl (by omega) (fun c57 => ?_) (fun c57 => ?_)
            · refine Z_iload_n 42 rfl rfl rfl ?_
              refine Z_if_ge 43 rfl (tgt := 91) rfl (by omega) (fun c80 => ?_) (fun c80 => ?_)
              · refine Z_iconst 48 rfl ?_
                refine Z_istore 49 rfl (Nat.le_of_ble_eq_true rfl) (lv' := [(6, .int _), (0, .ref _), (1, .int _), (2, .int _), (3, .int _), (4, .int _), (5, .int _)]) rfl ?_
                refine Z_pick [0, 1, 2, 3, 4, 5, 6] (lv' := [(0, .ref _), (1, .int _), (2, .int _), (3, .int _), (4, .int _), (5, .int _), (6, .int _)]) rfl ?_
                have ho : layOk p.t a st n := by unfold layOk; omega
                have hz := lp_M_lay l p kw sm ma mf mw cj h av bl r i a st n (by omega) hi ho (by omega) (by omega) 31 0 he fa li sl be ov (by omega) (by omega) (by omega) (Or.inl rfl)
                rw [layP_0] at hz
                unfold layF
                rw [cif_t (by omega), cif_t (by omega), cif_t ho]
                exact hz
              · refine Z_iload 44 rfl rfl ?_
                refine Z_if_le 45 rfl (tgt := 91) rfl (by omega) (fun c85 => ?_) (fun c85 => ?_)
                · refine Z_iconst 48 rfl ?_
                  refine Z_istore 49 rfl (Nat.le_of_ble_eq_true rfl) (lv' := [(6, .int _), (0, .ref _), (1, .int _), (2, .int _), (3, .int _), (4, .int _), (5, .int _)]) rfl ?_
                  refine Z_pick [0, 1, 2, 3, 4, 5, 6] (lv' := [(0, .ref _), (1, .int _), (2, .int _), (3, .int _), (4, .int _), (5, .int _), (6, .int _)]) rfl ?_
                  have ho : layOk p.t a st n := by unfold layOk; omega
                  have hz := lp_M_lay l p kw sm ma mf mw cj h av bl r i a st n (by omega) hi ho (by omega) (by omega) 31 0 he fa li sl be ov (by omega) (by omega) (by omega) (Or.inl rfl)
                  rw [layP_0] at hz
                  unfold layF
                  rw [cif_t (by omega), cif_t (by omega), cif_t ho]
                  exact hz
                · refine Z_bipush 46 rfl rfl ?_
                  refine Z_iret 47 rfl rfl ⟨Nat.le_refl _, Nat.le_refl _⟩ ?_
                  exact ⟨by unfold layF; rw [cif_t (by omega), cif_t (by omega), cif_t (by unfold layOk; omega)]; rw [if_neg (by omega)], _, _, _, _, _, _, by unfold layF; rw [cif_t (by omega), cif_t (by omega), cif_t (by unfold layOk; omega)]; rw [layP_out _ _ _ _ _ _ _ _ (show i < 0 ∨ p.rz r ≤ i by omega)]⟩
            · refine Z_aload_n 30 rfl rfl rfl ?_
              refine Z_iload_n 31 rfl rfl rfl ?_
              refine Z_iload 32 rfl rfl ?_
              refine Z_iconst 33 rfl ?_
              refine Z_isub 34 rfl ?_
              refine Z_iload 35 rfl rfl ?_
              have hm := mul_bd (x := n - 1) (y := st) (A := 30) (B := 60) (by omega) (by omega)
              refine Z_imul 36 rfl ?_
              refine Z_iadd 37 rfl ?_
              refine Z_callVbp (M' := M_M_isAngle) 38 isM rfl l_M_167 C_M_isAngle (c_M_isAngle l p he fa li sl be ov av bl kw sm ma mf mw cj h (a + (n - 1) * st) (by omega)) (emM ..) (Or.inl ⟨_, _, _, _, rfl, rfl⟩) rfl rfl rfl (Nat.le_of_ble_eq_true rfl) ⟨rfl, rfl, Nat.le_of_ble_eq_true rfl, Nat.le_of_ble_eq_true rfl⟩ ⟨Nat.zero_le _, Nat.zero_le _⟩ ?_
              refine Z_ifb_ne 39 rfl (tgt := 79) rfl (fun c73 => ?_) (fun c73 => ?_)
              · refine Z_iload_n 42 rfl rfl rfl ?_
                refine Z_if_ge 43 rfl (tgt := 91) rfl (by omega) (fun c80 => ?_) (fun c80 => ?_)
                · refine Z_iconst 48 rfl ?_
                  refine Z_istore 49 rfl (Nat.le_of_ble_eq_true rfl) (lv' := [(6, .int _), (0, .ref _), (1, .int _), (2, .int _), (3, .int _), (4, .int _), (5, .int _)]) rfl ?_
                  refine Z_pick [0, 1, 2, 3, 4, 5, 6] (lv' := [(0, .ref _), (1, .int _), (2, .int _), (3, .int _), (4, .int _), (5, .int _), (6, .int _)]) rfl ?_
                  have ho : layOk p.t a st n := by unfold layOk; omega
                  have hz := lp_M_lay l p kw sm ma mf mw cj h av bl r i a st n (by omega) hi ho (by omega) (by omega) 31 0 he fa li sl be ov (by omega) (by omega) (by omega) (Or.inl rfl)
                  rw [layP_0] at hz
                  unfold layF
                  rw [cif_t (by omega), cif_t (by omega), cif_t ho]
                  exact hz
                · refine Z_iload 44 rfl rfl ?_
                  refine Z_if_le 45 rfl (tgt := 91) rfl (by omega) (fun c85 => ?_) (fun c85 => ?_)
                  · refine Z_iconst 48 rfl ?_
                    refine Z_istore 49 rfl (Nat.le_of_ble_eq_true rfl) (lv' := [(6, .int _), (0, .ref _), (1, .int _), (2, .int _), (3, .int _), (4, .int _), (5, .int _)]) rfl ?_
                    refine Z_pick [0, 1, 2, 3, 4, 5, 6] (lv' := [(0, .ref _), (1, .int _), (2, .int _), (3, .int _), (4, .int _), (5, .int _), (6, .int _)]) rfl ?_
                    have ho : layOk p.t a st n := by unfold layOk; omega
                    have hz := lp_M_lay l p kw sm ma mf mw cj h av bl r i a st n (by omega) hi ho (by omega) (by omega) 31 0 he fa li sl be ov (by omega) (by omega) (by omega) (Or.inl rfl)
                    rw [layP_0] at hz
                    unfold layF
                    rw [cif_t (by omega), cif_t (by omega), cif_t ho]
                    exact hz
                  · refine Z_bipush 46 rfl rfl ?_
                    refine Z_iret 47 rfl rfl ⟨Nat.le_refl _, Nat.le_refl _⟩ ?_
                    exact ⟨by unfold layF; rw [cif_t (by omega), cif_t (by omega), cif_t (by unfold layOk; omega)]; rw [if_neg (by omega)], _, _, _, _, _, _, by unfold layF; rw [cif_t (by omega), cif_t (by omega), cif_t (by unfold layOk; omega)]; rw [layP_out _ _ _ _ _ _ _ _ (show i < 0 ∨ p.rz r ≤ i by omega)]⟩
              · refine Z_bipush 40 rfl rfl ?_
                refine Z_iret 41 rfl rfl ⟨Nat.le_refl _, Nat.le_refl _⟩ ?_
                exact ⟨by unfold layF; rw [cif_t (by omega), cif_t (by omega), cif_f (by unfold layOk; omega)], _, _, _, _, _, _, by unfold layF; rw [cif_t (by omega), cif_t (by omega), cif_f (by unfold layOk; omega)]⟩
    · refine Z_bipush 10 rfl rfl ?_
      refine Z_iret 11 rfl rfl ⟨Nat.le_refl _, Nat.le_refl _⟩ ?_
      exact ⟨by unfold layF; (repeat (first | rw [cif_t (by first | assumption | omega)] | rw [cif_f (by first | assumption | omega)])), _, _, _, _, _, _, by unfold layF; (repeat (first | rw [cif_t (by first | assumption | omega)] | rw [cif_f (by first | assumption | omega)])) <;> rfl⟩
  · refine Z_iconst 3 rfl ?_
    refine Z_iret 4 rfl rfl ⟨Nat.le_refl _, Nat.le_refl _⟩ ?_
    exact ⟨by unfold layF; (repeat (first | rw [cif_t (by first | assumption | omega)] | rw [cif_f (by first | assumption | omega)])), _, _, _, _, _, _, by unfold layF; (repeat (first | rw [cif_t (by first | assumption | omega)] | rw [cif_f (by first | assumption | omega)])) <;> rfl⟩
theorem sd_z (L r a u : Int) : sd 0 L 0 a u = sd 0 L r a u := rfl
theorem lp_M_isSeen (h : MV p) (he fa li sl be ov av bl kd r i n j : Int) (hk : 0 ≤ kd ∧ kd ≤ 5) (hr : 0 ≤ r ∧ r < 4) (hj : 0 ≤ j ∧ j < p.t.2.2.2) (hn : (1 ≤ n ∧ n ≤ 30) ∧ n ≤ p.t.2.1 j + 1) (hi : 0 ≤ i ∧ i ≤ p.rz r - n) : ∀ (d : Nat) (u : Int), 0 ≤ u → u ≤ n → n - u < d → (∀ x, 0 ≤ x → x < u → p.rp (r * 30 + (i + x)) = smp (sd kd (p.t.2.1 j) (p.t.2.2.1 j) (ah p.t j) x) (p.s 5)) → Z (l, M_M_isSeen, R_M_isSeen, (0, 0), false, zAb (seeP p.t p.s p.rp r i n j kd) (fun m => m = eM p he fa li sl be ov av bl kw sm ma mf mw cj)) 0 0 (eM p he fa li sl be ov av bl kw sm ma mf mw cj) 3 [(0, .ref 0), (1, .int (iI (30 * r + i))), (2, .int (iI n)), (3, .int (iI j)), (4, .int (iI kd)), (5, .int (iI u))] [] := by
  have hZ : ZB p.rz := h.2.2.2.2.2.2.2
  have hzr := hZ r
  have h1 := h.1.1.1
  have b3 := h.1.1.2.2.2 j
  have b4 := ah_bd h.1.1 (show j ≤ 12 by omega)
  have hl := TV_L h.1 hj.1 hj.2
  intro d
  induction d with
  | zero => intro u h2 h3 h4; omega
  | succ d ih =>
    intro u h2 h3 h4 h5
    obtain ⟨rr, hrr⟩ : ∃ rr, rr = if kd = 0 then 0 else p.t.2.2.1 j := ⟨_, rfl⟩
    have hrb : -99 ≤ rr ∧ rr ≤ 99 := by rw [hrr]; split <;> omega
    have esd : sd kd (p.t.2.1 j) rr (ah p.t j) u = sd kd (p.t.2.1 j) (p.t.2.2.1 j) (ah p.t j) u := by
      rw [hrr]
      by_cases z : kd = 0
      · rw [if_pos z, z]
        exact sd_z _ _ _ _
      · rw [if_neg z]
    refine Z_iload 2 rfl rfl ?_
    refine Z_iload_n 3 rfl rfl rfl ?_
    refine Z_icmp_ge 4 rfl (tgt := 54) rfl (by omega) (by omega) (fun c6 => ?_) (fun c6 => ?_)
    · refine Z_iconst 30 rfl ?_
      refine Z_zret 31 rfl rfl rfl ⟨Nat.le_refl _, Nat.le_refl _⟩ ?_
      exact ⟨bT (fun x x1 x2 => h5 x x1 (by omega)), rfl⟩
    · have hsb := sd_bd (k := kd) (L := p.t.2.1 j) (r := p.t.2.2.1 j) (a := ah p.t j) (u := u) hk hl b3 (by omega) (by omega)
      have hsg := sd_g (k := kd) (L := p.t.2.1 j) (r := p.t.2.2.1 j) (a := ah p.t j) (u := u) hk hl b3 (by omega)
      have hs2 := smp_b2 hsb hsg h.2.1.2.2.2.2.2
      have hpl := h.2.2.2.2.2.2.1 (r * 30 + (i + u))
      refine Z_aload_n 5 rfl rfl rfl ?_
      refine Z_get 6 rfl f_M_59 rfl rfl ?_
      refine Z_iload_n 7 rfl rfl rfl ?_
      refine Z_iload 8 rfl rfl ?_
      refine Z_iadd 9 rfl ?_
      refine Z_la 10 rfl rfl (by omega) (by decide) ?_
      refine Z_cl (show _ = p.rp (r * 30 + (i + u)) by rw [show r * 30 + (i + u) = 30 * r + i + u by omega]) ?_
      refine Z_aload_n 11 rfl rfl rfl ?_
      refine Z_iload_n 12 rfl rfl rfl ?_
      refine Z_iload 13 rfl rfl ?_
      refine Z_iload 14 rfl rfl ?_
      refine Z_iload 15 rfl rfl ?_
      refine Z_if_ne 16 rfl (tgt := 33) rfl (by omega) (fun c26 => ?_) (fun c26 => ?_)
      · refine Z_aload_n 19 rfl rfl rfl ?_
        refine Z_get 20 rfl f_M_18 rfl rfl ?_
        refine Z_iload_n 21 rfl rfl rfl ?_
        refine Z_ia 22 rfl rfl (by omega) (by decide) ?_
        refine Z_ci (show _ = rr by rw [hrr]; first | (rw [if_pos (by omega)] <;> rfl) | rw [if_neg (by omega)]) ?_
        refine Z_callVlp (M' := M_M_sampleOf) 23 isM rfl l_M_292 C_M_sampleOf (c_M_sampleOf l p kw ma mf mw cj h j u kd rr he fa li sl be ov av bl sm hj (by omega) hk hrb) (emM ..) (Or.inl ⟨_, _, _, _, rfl, rfl⟩) rfl rfl rfl (Nat.le_of_ble_eq_true rfl) ⟨rfl, rfl, Nat.le_of_ble_eq_true rfl, Nat.le_of_ble_eq_true rfl⟩ ⟨Nat.zero_le _, Nat.zero_le _⟩ ?_
        rw [esd]
        refine Z_lc_eq 24 rfl rfl (tgt := 48) rfl (by omega) (by omega) (fun c42 => ?_) (fun c42 => ?_)
        · refine Z_iinc 28 rfl rfl (Nat.le_of_ble_eq_true rfl) (lv' := [(5, .int _), (0, .ref _), (1, .int _), (2, .int _), (3, .int _), (4, .int _)]) rfl ?_
          refine Z_goto 29 rfl (tgt := 3) rfl ?_
          refine Z_pick [0, 1, 2, 3, 4, 5] (lv' := [(0, .ref _), (1, .int _), (2, .int _), (3, .int _), (4, .int _), (5, .int _)]) rfl ?_
          exact ih (u + 1) (by omega) (by omega) (by omega) (fun x x1 x2 => by
            by_cases ex : x = u
            · rw [ex]; omega
            · exact h5 x x1 (by omega))
        · refine Z_iconst 26 rfl ?_
          refine Z_zret 27 rfl rfl rfl ⟨Nat.le_refl _, Nat.le_refl _⟩ ?_
          exact ⟨bF (fun z => by have := z u h2 (by omega); omega), rfl⟩
      · refine Z_iconst 17 rfl ?_
        refine Z_goto 18 rfl (tgt := 39) rfl ?_
        refine Z_ci (show _ = rr by rw [hrr]; first | (rw [if_pos (by omega)] <;> rfl) | rw [if_neg (by omega)]) ?_
        refine Z_callVlp (M' := M_M_sampleOf) 23 isM rfl l_M_292 C_M_sampleOf (c_M_sampleOf l p kw ma mf mw cj h j u kd rr he fa li sl be ov av bl sm hj (by omega) hk hrb) (emM ..) (Or.inl ⟨_, _, _, _, rfl, rfl⟩) rfl rfl rfl (Nat.le_of_ble_eq_true rfl) ⟨rfl, rfl, Nat.le_of_ble_eq_true rfl, Nat.le_of_ble_eq_true rfl⟩ ⟨Nat.zero_le _, Nat.zero_le _⟩ ?_
        rw [esd]
        refine Z_lc_eq 24 rfl rfl (tgt := 48) rfl (by omega) (by omega) (fun c42 => ?_) (fun c42 => ?_)
        · refine Z_iinc 28 rfl rfl (Nat.le_of_ble_eq_true rfl) (lv' := [(5, .int _), (0, .ref _), (1, .int _), (2, .int _), (3, .int _), (4, .int _)]) rfl ?_
          refine Z_goto 29 rfl (tgt := 3) rfl ?_
          refine Z_pick [0, 1, 2, 3, 4, 5] (lv' := [(0, .ref _), (1, .int _), (2, .int _), (3, .int _), (4, .int _), (5, .int _)]) rfl ?_
          exact ih (u + 1) (by omega) (by omega) (by omega) (fun x x1 x2 => by
            by_cases ex : x = u
            · rw [ex]; omega
            · exact h5 x x1 (by omega))
        · refine Z_iconst 26 rfl ?_
          refine Z_zret 27 rfl rfl rfl ⟨Nat.le_refl _, Nat.le_refl _⟩ ?_
          exact ⟨bF (fun z => by have := z u h2 (by omega); omega), rfl⟩
theorem c_M_isSeen (h : MV p) (he fa li sl be ov av bl kd r i n j : Int) (hk : 0 ≤ kd ∧ kd ≤ 5) (hr : 0 ≤ r ∧ r < 4) (hj : 0 ≤ j ∧ j < p.t.2.2.2) (hn : (1 ≤ n ∧ n ≤ 30) ∧ n ≤ p.t.2.1 j + 1) (hi : 0 ≤ i ∧ i ≤ p.rz r - n) : Con l M_M_isSeen R_M_isSeen 0 0 false [.ref 0, .int (iI (30 * r + i)), .int (iI n), .int (iI j), .int (iI kd)] (eM p he fa li sl be ov av bl kw sm ma mf mw cj) (zAb (seeP p.t p.s p.rp r i n j kd) (fun m => m = eM p he fa li sl be ov av bl kw sm ma mf mw cj)) := by
  refine Con.of_Z (by decide) D_M_isSeen (Nat.le_of_ble_eq_true rfl) ?_
  refine Z_iconst 0 rfl ?_
  refine Z_istore 1 rfl (Nat.le_of_ble_eq_true rfl) (lv' := [(5, .int _), (0, .ref _), (1, .int _), (2, .int _), (3, .int _), (4, .int _)]) rfl ?_
  refine Z_pick [0, 1, 2, 3, 4, 5] (lv' := [(0, .ref _), (1, .int _), (2, .int _), (3, .int _), (4, .int _), (5, .int _)]) rfl ?_
  exact lp_M_isSeen l p kw sm ma mf mw cj h he fa li sl be ov av bl kd r i n j hk hr hj hn hi 31 0 (by omega) (by omega) (by omega) (fun x x1 x2 => by omega)
theorem lp_M_seen (h : MV p) (he fa li sl be ov av bl r i n j : Int) (hr : 0 ≤ r ∧ r < 4) (hj : 0 ≤ j ∧ j < p.t.2.2.2) (hn : (1 ≤ n ∧ n ≤ 30) ∧ n ≤ p.t.2.1 j + 1) (hi : 0 ≤ i ∧ i ≤ p.rz r - n) : ∀ (d : Nat) (k : Int), 0 ≤ k → k ≤ 6 → 6 - k < d → Z (l, M_M_seen, R_M_seen, (0, 0), false, zAi (seeI p.t p.s p.rp r i n j 6).toInt (fun m => m = eM p he fa li sl be ov av bl kw sm ma mf mw cj)) 0 0 (eM p he fa li sl be ov av bl kw sm ma mf mw cj) 83 [(0, .ref 0), (1, .int (iI r)), (2, .int (iI i)), (3, .int (iI n)), (4, .int (iI j)), (5, .int (seeI p.t p.s p.rp r i n j k)), (6, .int (iI k))] [] := by
  have hzr := h.2.2.2.2.2.2.2 r
  intro d
  induction d with
  | zero => intro k h2 h3 h4; omega
  | succ d ih =>
    intro k h2 h3 h4
    have e := seeI_s p.t p.s p.rp r i n j h2
    refine Z_iload 48 rfl rfl ?_
    refine Z_iconst 49 rfl ?_
    refine Z_icmp_gt 50 rfl (tgt := 122) rfl (by omega) (by omega) (fun c86 => ?_) (fun c86 => ?_)
    · refine Z_iload 70 rfl rfl ?_
      refine Z_iret 71 rfl rfl ⟨Nat.le_refl _, Nat.le_refl _⟩ ?_
      exact ⟨by rw [show k = 6 by omega, iI_o], rfl⟩
    · refine Z_aload_n 51 rfl rfl rfl ?_
      refine Z_bipush 52 rfl rfl ?_
      refine Z_iload_n 53 rfl rfl rfl ?_
      refine Z_imul 54 rfl ?_
      refine Z_iload_n 55 rfl rfl rfl ?_
      refine Z_iadd 56 rfl ?_
      refine Z_iload_n 57 rfl rfl rfl ?_
      refine Z_iload 58 rfl rfl ?_
      refine Z_iload 59 rfl rfl ?_
      refine Z_callVbp (M' := M_M_isSeen) 60 isM rfl l_M_310 C_M_isSeen (c_M_isSeen l p kw sm ma mf mw cj h he fa li sl be ov av bl k r i n j (by omega) hr hj hn hi) (emM ..) (Or.inl ⟨_, _, _, _, rfl, rfl⟩) rfl rfl rfl (Nat.le_of_ble_eq_true rfl) ⟨rfl, rfl, Nat.le_of_ble_eq_true rfl, Nat.le_of_ble_eq_true rfl⟩ ⟨Nat.zero_le _, Nat.zero_le _⟩ ?_
      refine Z_ifb_eq 61 rfl (tgt := 116) rfl (fun c104 => ?_) (fun c104 => ?_)
      · refine Z_iinc 68 rfl rfl (Nat.le_of_ble_eq_true rfl) (lv' := [(6, .int _), (0, .ref _), (1, .int _), (2, .int _), (3, .int _), (4, .int _), (5, .int _)]) rfl ?_
        refine Z_goto 69 rfl (tgt := 83) rfl ?_
        refine Z_pick [0, 1, 2, 3, 4, 5, 6] (lv' := [(0, .ref _), (1, .int _), (2, .int _), (3, .int _), (4, .int _), (5, .int _), (6, .int _)]) rfl ?_
        have hz := ih (k + 1) (by omega) (by omega) (by omega)
        first | (rw [e, cif_t c104] at hz; exact hz) | (rw [e, cif_f c104] at hz; exact hz)
      · refine Z_iload 62 rfl rfl ?_
        refine Z_iconst 63 rfl ?_
        refine Z_iload 64 rfl rfl ?_
        refine Z_ishl 65 rfl ?_
        refine Z_ior 66 rfl ?_
        refine Z_istore 67 rfl (Nat.le_of_ble_eq_true rfl) (lv' := [(5, .int _), (0, .ref _), (1, .int _), (2, .int _), (3, .int _), (4, .int _), (6, .int _)]) rfl ?_
        refine Z_iinc 68 rfl rfl (Nat.le_of_ble_eq_true rfl) (lv' := [(6, .int _), (5, .int _), (0, .ref _), (1, .int _), (2, .int _), (3, .int _), (4, .int _)]) rfl ?_
        refine Z_goto 69 rfl (tgt := 83) rfl ?_
        refine Z_pick [0, 1, 2, 3, 4, 5, 6] (lv' := [(0, .ref _), (1, .int _), (2, .int _), (3, .int _), (4, .int _), (5, .int _), (6, .int _)]) rfl ?_
        have hz := ih (k + 1) (by omega) (by omega) (by omega)
        first | (rw [e, cif_t c104] at hz; exact hz) | (rw [e, cif_f c104] at hz; exact hz)
theorem c_M_seen (h : MV p) (r i n j he fa li sl be ov av bl : Int) (hr : inI r) (hi : inI i) (hn : inI n) (hj : inI j) : Con l M_M_seen R_M_seen 0 0 false [.ref 0, .int (iI r), .int (iI i), .int (iI n), .int (iI j)] (eM p he fa li sl be ov av bl kw sm ma mf mw cj) (zAi (seeF p.t p.s p.rp p.rz r i n j) (fun m => m = eM p he fa li sl be ov av bl kw sm ma mf mw cj)) := by
  have hZ : ZB p.rz := h.2.2.2.2.2.2.2
  have hzr := hZ r
  have h1 := h.1.1.1
  have b2 := h.1.1.2.2.1 j
  refine Con.of_Z (by decide) D_M_seen (Nat.le_of_ble_eq_true rfl) ?_
  refine Z_iload_n 0 rfl rfl rfl ?_
  refine Z_callSbp (M' := M_M_isList) 1 [] rfl l_M_307 C_M_isList (c_M_isList l _ (by omega)) ⟨List.nodup_nil, zEL.n⟩ rfl rfl rfl (Nat.le_of_ble_eq_true rfl) ⟨rfl, rfl, Nat.le_of_ble_eq_true rfl, Nat.le_of_ble_eq_true rfl⟩ ⟨Nat.zero_le _, Nat.zero_le _⟩ ?_
  refine Z_ifb_eq 2 rfl (tgt := 16) rfl (fun c4 => ?_) (fun c4 => ?_)
  · refine Z_iconst 7 rfl ?_
    refine Z_iret 8 rfl rfl ⟨Nat.le_refl _, Nat.le_refl _⟩ ?_
    exact ⟨by unfold seeF; (repeat (first | rw [cif_t (by first | assumption | omega)] | rw [cif_f (by first | assumption | omega)])), rfl⟩
  · refine Z_aload_n 3 rfl rfl rfl ?_
    refine Z_iload 4 rfl rfl ?_
    refine Z_callVbp (M' := M_M_isPiece) 5 isM rfl l_M_104 C_M_isPiece (c_M_isPiece l p he fa li sl be ov av bl kw sm ma mf mw cj h.1.1 j hj) (emM ..) (Or.inl ⟨_, _, _, _, rfl, rfl⟩) rfl rfl rfl (Nat.le_of_ble_eq_true rfl) ⟨rfl, rfl, Nat.le_of_ble_eq_true rfl, Nat.le_of_ble_eq_true rfl⟩ ⟨Nat.zero_le _, Nat.zero_le _⟩ ?_
    refine Z_ifb_ne 6 rfl (tgt := 18) rfl (fun c13 => ?_) (fun c13 => ?_)
    · refine Z_aload_n 9 rfl rfl rfl ?_
      refine Z_get 10 rfl f_M_56 rfl rfl ?_
      refine Z_iload_n 11 rfl rfl rfl ?_
      refine Z_ia 12 rfl rfl (by omega) (by decide) ?_
      refine Z_if_ge 13 rfl (tgt := 30) rfl (by omega) (fun c24 => ?_) (fun c24 => ?_)
      · refine Z_iload_n 16 rfl rfl rfl ?_
        refine Z_i2l 17 rfl (by omega) ?_
        refine Z_lconst 18 rfl ?_
        refine Z_ldc2 19 rfl k_M_155 (c := 30) rfl ?_
        refine Z_callSbp (M' := M_M_in) 20 [] rfl l_M_80 C_M_in (c_M_in l _ _ _ (by omega) (by omega) (by omega)) ⟨List.nodup_nil, zEL.n⟩ rfl rfl rfl (Nat.le_of_ble_eq_true rfl) ⟨rfl, rfl, Nat.le_of_ble_eq_true rfl, Nat.le_of_ble_eq_true rfl⟩ ⟨Nat.zero_le _, Nat.zero_le _⟩ ?_
        refine Z_ifb_eq 21 rfl (tgt := 55) rfl (fun c39 => ?_) (fun c39 => ?_)
        · refine Z_bipush 30 rfl rfl ?_
          refine Z_iret 31 rfl rfl ⟨Nat.le_refl _, Nat.le_refl _⟩ ?_
          exact ⟨by unfold seeF; (repeat (first | rw [cif_t (by first | assumption | omega)] | rw [cif_f (by first | assumption | omega)])), rfl⟩
        · refine Z_iload_n 22 rfl rfl rfl ?_
          refine Z_aload_n 23 rfl rfl rfl ?_
          refine Z_get 24 rfl f_M_15 rfl rfl ?_
          refine Z_iload 25 rfl rfl ?_
          refine Z_ia 26 rfl rfl (by omega) (by decide) ?_
          refine Z_iconst 27 rfl ?_
          refine Z_iadd 28 rfl ?_
          refine Z_icmp_le 29 rfl (tgt := 58) rfl (by omega) (by omega) (fun c52 => ?_) (fun c52 => ?_)
          · refine Z_iload_n 32 rfl rfl rfl ?_
            refine Z_if_lt 33 rfl (tgt := 74) rfl (by omega) (fun c59 => ?_) (fun c59 => ?_)
            · refine Z_bipush 42 rfl rfl ?_
              refine Z_iret 43 rfl rfl ⟨Nat.le_refl _, Nat.le_refl _⟩ ?_
              exact ⟨by unfold seeF; (repeat (first | rw [cif_t (by first | assumption | omega)] | rw [cif_f (by first | assumption | omega)])), rfl⟩
            · refine Z_iload_n 34 rfl rfl rfl ?_
              refine Z_aload_n 35 rfl rfl rfl ?_
              refine Z_get 36 rfl f_M_56 rfl rfl ?_
              refine Z_iload_n 37 rfl rfl rfl ?_
              refine Z_ia 38 rfl rfl (by omega) (by decide) ?_
              refine Z_iload_n 39 rfl rfl rfl ?_
              refine Z_isub 40 rfl ?_
              refine Z_icmp_le 41 rfl (tgt := 77) rfl (by omega) (by omega) (fun c71 => ?_) (fun c71 => ?_)
              · refine Z_iconst 44 rfl ?_
                refine Z_istore 45 rfl (Nat.le_of_ble_eq_true rfl) (lv' := [(5, .int _), (0, .ref _), (1, .int _), (2, .int _), (3, .int _), (4, .int _)]) rfl ?_
                refine Z_iconst 46 rfl ?_
                refine Z_istore 47 rfl (Nat.le_of_ble_eq_true rfl) (lv' := [(6, .int _), (5, .int _), (0, .ref _), (1, .int _), (2, .int _), (3, .int _), (4, .int _)]) rfl ?_
                refine Z_pick [0, 1, 2, 3, 4, 5, 6] (lv' := [(0, .ref _), (1, .int _), (2, .int _), (3, .int _), (4, .int _), (5, .int _), (6, .int _)]) rfl ?_
                unfold seeF
                rw [cif_t (by omega), cif_t (by omega), cif_t (by omega), cif_t (by omega)]
                exact lp_M_seen l p kw sm ma mf mw cj h he fa li sl be ov av bl r i n j (by omega) (by omega) (by omega) (by omega) 7 0 (by omega) (by omega) (by omega)
              · refine Z_bipush 42 rfl rfl ?_
                refine Z_iret 43 rfl rfl ⟨Nat.le_refl _, Nat.le_refl _⟩ ?_
                exact ⟨by unfold seeF; (repeat (first | rw [cif_t (by first | assumption | omega)] | rw [cif_f (by first | assumption | omega)])), rfl⟩
          · refine Z_bipush 30 rfl rfl ?_
            refine Z_iret 31 rfl rfl ⟨Nat.le_refl _, Nat.le_refl _⟩ ?_
            exact ⟨by unfold seeF; (repeat (first | rw [cif_t (by first | assumption | omega)] | rw [cif_f (by first | assumption | omega)])), rfl⟩
      · refine Z_bipush 14 rfl rfl ?_
        refine Z_iret 15 rfl rfl ⟨Nat.le_refl _, Nat.le_refl _⟩ ?_
        exact ⟨by unfold seeF; (repeat (first | rw [cif_t (by first | assumption | omega)] | rw [cif_f (by first | assumption | omega)])), rfl⟩
    · refine Z_iconst 7 rfl ?_
      refine Z_iret 8 rfl rfl ⟨Nat.le_refl _, Nat.le_refl _⟩ ?_
      exact ⟨by unfold seeF; (repeat (first | rw [cif_t (by first | assumption | omega)] | rw [cif_f (by first | assumption | omega)])), rfl⟩
/-- what a made list is in the model: all its places nought -/
noncomputable def listG (P Zs : Int → Int) (r n : Int) : Int × ((Int → Int) × (Int → Int)) := cif (0 ≤ r ∧ r < 4) (cif (30 < n) (-2, P, Zs) (cif (n < 0) (-14, P, Zs) (1, zer P r 30, uI Zs r n))) (-1, P, Zs)
theorem zer_sM (P : Int → Int) (r : Int) {k : Int} (hk : 0 ≤ k) : uI (zer P r k) (30 * r + k) 0 = zer P r (k + 1) := by
  funext j
  show (if j = 30 * r + k then (0 : Int) else if r * 30 ≤ j ∧ j < r * 30 + k then 0 else P j) = if r * 30 ≤ j ∧ j < r * 30 + (k + 1) then 0 else P j
  by_cases e : j = 30 * r + k
  · rw [if_pos e, if_pos (by omega)]
  · rw [if_neg e]
    by_cases e2 : r * 30 ≤ j ∧ j < r * 30 + k
    · rw [if_pos e2, if_pos (by omega)]
    · rw [if_neg e2, if_neg (by omega)]
theorem lp_M_list (he fa li sl be ov av bl r n : Int) (Zs : Int → Int) (hr : 0 ≤ r ∧ r < 4) : ∀ (d : Nat) (k : Int), 0 ≤ k → k ≤ 30 → 30 - k < d → Z (l, M_M_list, R_M_list, (0, 0), false, zAi 1 (fun m => m = eM ((p.1, p.2.1, p.2.2.1, p.2.2.2.1, p.2.2.2.2.1, zer p.rp r 30, Zs, p.2.2.2.2.2.2.2)) he fa li sl be ov av bl kw sm ma mf mw cj)) 0 0 (eM ((p.1, p.2.1, p.2.2.1, p.2.2.2.1, p.2.2.2.2.1, zer p.rp r k, Zs, p.2.2.2.2.2.2.2)) he fa li sl be ov av bl kw sm ma mf mw cj) 34 [(0, .ref 0), (1, .int (iI r)), (2, .int (iI n)), (3, .int (iI k))] [] := by
  intro d
  induction d with
  | zero => intro k h2 h3 h4; omega
  | succ d ih =>
    intro k h2 h3 h4
    refine Z_iload_n 21 rfl rfl rfl ?_
    refine Z_bipush 22 rfl rfl ?_
    refine Z_icmp_ge 23 rfl (tgt := 58) rfl (by omega) (by omega) (fun c37 => ?_) (fun c37 => ?_)
    · refine Z_iconst 35 rfl ?_
      refine Z_iret 36 rfl rfl ⟨Nat.le_refl _, Nat.le_refl _⟩ ?_
      exact ⟨rfl, by rw [show k = 30 by omega]⟩
    · refine Z_aload_n 24 rfl rfl rfl ?_
      refine Z_get 25 rfl f_M_59 rfl rfl ?_
      refine Z_bipush 26 rfl rfl ?_
      refine Z_iload_n 27 rfl rfl rfl ?_
      refine Z_imul 28 rfl ?_
      refine Z_iload_n 29 rfl rfl rfl ?_
      refine Z_iadd 30 rfl ?_
      refine Z_lconst 31 rfl ?_
      refine Z_las 32 rfl rfl (by omega) (by decide) (mem' := eM ((p.1, p.2.1, p.2.2.1, p.2.2.2.1, p.2.2.2.2.1, uI (zer p.rp r k) (30 * r + k) 0, Zs, p.2.2.2.2.2.2.2)) he fa li sl be ov av bl kw sm ma mf mw cj) rfl ?_
      refine Z_iinc 33 rfl rfl (Nat.le_of_ble_eq_true rfl) (lv' := [(3, .int _), (0, .ref _), (1, .int _), (2, .int _)]) rfl ?_
      refine Z_goto 34 rfl (tgt := 34) rfl ?_
      refine Z_pick [0, 1, 2, 3] (lv' := [(0, .ref _), (1, .int _), (2, .int _), (3, .int _)]) rfl ?_
      rw [zer_sM p.rp r h2]
      exact ih (k + 1) (by omega) (by omega) (by omega)
theorem c_M_list (h : MV p) (r n he fa li sl be ov av bl : Int) (hr : inI r) (hn : inI n) : Con l M_M_list R_M_list 0 0 false [.ref 0, .int (iI r), .int (iI n)] (eM p he fa li sl be ov av bl kw sm ma mf mw cj) (zAi (listG p.rp p.rz r n).1 (fun m => m = eM ((p.1, p.2.1, p.2.2.1, p.2.2.2.1, p.2.2.2.2.1, (listG p.rp p.rz r n).2.1, (listG p.rp p.rz r n).2.2, p.2.2.2.2.2.2.2)) he fa li sl be ov av bl kw sm ma mf mw cj)) := by
  refine Con.of_Z (by decide) D_M_list (Nat.le_of_ble_eq_true rfl) ?_
  refine Z_iload_n 0 rfl rfl rfl ?_
  refine Z_callSbp (M' := M_M_isList) 1 [] rfl l_M_307 C_M_isList (c_M_isList l _ (by omega)) ⟨List.nodup_nil, zEL.n⟩ rfl rfl rfl (Nat.le_of_ble_eq_true rfl) ⟨rfl, rfl, Nat.le_of_ble_eq_true rfl, Nat.le_of_ble_eq_true rfl⟩ ⟨Nat.zero_le _, Nat.zero_le _⟩ ?_
  refine Z_ifb_ne 2 rfl (tgt := 9) rfl (fun c4 => ?_) (fun c4 => ?_)
  · refine Z_iload_n 5 rfl rfl rfl ?_
    refine Z_bipush 6 rfl rfl ?_
    refine Z_icmp_le 7 rfl (tgt := 18) rfl (by omega) (by omega) (fun c12 => ?_) (fun c12 => ?_)
    · refine Z_iload_n 10 rfl rfl rfl ?_
      refine Z_if_ge 11 rfl (tgt := 25) rfl (by omega) (fun c19 => ?_) (fun c19 => ?_)
      · refine Z_aload_n 14 rfl rfl rfl ?_
        refine Z_get 15 rfl f_M_56 rfl rfl ?_
        refine Z_iload_n 16 rfl rfl rfl ?_
        refine Z_iload_n 17 rfl rfl rfl ?_
        refine Z_ias 18 rfl rfl (by omega) (by decide) (mem' := eM ((p.1, p.2.1, p.2.2.1, p.2.2.2.1, p.2.2.2.2.1, p.rp, uI p.rz r n, p.2.2.2.2.2.2.2)) he fa li sl be ov av bl kw sm ma mf mw cj) rfl ?_
        refine Z_iconst 19 rfl ?_
        refine Z_istore_n 20 rfl rfl (Nat.le_of_ble_eq_true rfl) (lv' := [(3, .int _), (0, .ref _), (1, .int _), (2, .int _)]) rfl ?_
        refine Z_pick [0, 1, 2, 3] (lv' := [(0, .ref _), (1, .int _), (2, .int _), (3, .int _)]) rfl ?_
        have hz := lp_M_list l p kw sm ma mf mw cj he fa li sl be ov av bl r n (uI p.rz r n) (by omega) 31 0 (by omega) (by omega) (by omega)
        rw [zer_0] at hz
        unfold listG
        rw [cif_t (by omega), cif_f (by omega), cif_f (by omega)]
        exact hz
      · refine Z_bipush 12 rfl rfl ?_
        refine Z_iret 13 rfl rfl ⟨Nat.le_refl _, Nat.le_refl _⟩ ?_
        exact ⟨by unfold listG; (repeat (first | rw [cif_t (by first | assumption | omega)] | rw [cif_f (by first | assumption | omega)])), by unfold listG; (repeat (first | rw [cif_t (by first | assumption | omega)] | rw [cif_f (by first | assumption | omega)])) <;> rfl⟩
    · refine Z_bipush 8 rfl rfl ?_
      refine Z_iret 9 rfl rfl ⟨Nat.le_refl _, Nat.le_refl _⟩ ?_
      exact ⟨by unfold listG; (repeat (first | rw [cif_t (by first | assumption | omega)] | rw [cif_f (by first | assumption | omega)])), by unfold listG; (repeat (first | rw [cif_t (by first | assumption | omega)] | rw [cif_f (by first | assumption | omega)])) <;> rfl⟩
  · refine Z_iconst 3 rfl ?_
    refine Z_iret 4 rfl rfl ⟨Nat.le_refl _, Nat.le_refl _⟩ ?_
    exact ⟨by unfold listG; (repeat (first | rw [cif_t (by first | assumption | omega)] | rw [cif_f (by first | assumption | omega)])), by unfold listG; (repeat (first | rw [cif_t (by first | assumption | omega)] | rw [cif_f (by first | assumption | omega)])) <;> rfl⟩
theorem c_M_set (h : MV p) (r i v he fa li sl be ov av bl : Int) (hr : inI r) (hi : inI i) : Con l M_M_set R_M_set 0 0 false [.ref 0, .int (iI r), .int (iI i), .long (lI v)] (eM p he fa li sl be ov av bl kw sm ma mf mw cj) (zAi (setF p.rp p.rz r i v).1 (fun m => m = eM ((p.1, p.2.1, p.2.2.1, p.2.2.2.1, p.2.2.2.2.1, (setF p.rp p.rz r i v).2, p.2.2.2.2.2.2)) he fa li sl be ov av bl kw sm ma mf mw cj)) := by
  have hzr := h.2.2.2.2.2.2.2 r
  refine Con.of_Z (by decide) D_M_set (Nat.le_of_ble_eq_true rfl) ?_
  refine Z_iload_n 0 rfl rfl rfl ?_
  refine Z_callSbp (M' := M_M_isList) 1 [] rfl l_M_307 C_M_isList (c_M_isList l _ (by omega)) ⟨List.nodup_nil, zEL.n⟩ rfl rfl rfl (Nat.le_of_ble_eq_true rfl) ⟨rfl, rfl, Nat.le_of_ble_eq_true rfl, Nat.le_of_ble_eq_true rfl⟩ ⟨Nat.zero_le _, Nat.zero_le _⟩ ?_
  refine Z_ifb_ne 2 rfl (tgt := 9) rfl (fun c4 => ?_) (fun c4 => ?_)
  · refine Z_aload_n 5 rfl rfl rfl ?_
    refine Z_get 6 rfl f_M_56 rfl rfl ?_
    refine Z_iload_n 7 rfl rfl rfl ?_
    refine Z_ia 8 rfl rfl (by omega) (by decide) ?_
    refine Z_if_ge 9 rfl (tgt := 21) rfl (by omega) (fun c15 => ?_) (fun c15 => ?_)
    · refine Z_iload_n 12 rfl rfl rfl ?_
      refine Z_i2l 13 rfl (by omega) ?_
      refine Z_lconst 14 rfl ?_
      refine Z_aload_n 15 rfl rfl rfl ?_
      refine Z_get 16 rfl f_M_56 rfl rfl ?_
      refine Z_iload_n 17 rfl rfl rfl ?_
      refine Z_ia 18 rfl rfl (by omega) (by decide) ?_
      refine Z_iconst 19 rfl ?_
      refine Z_isub 20 rfl ?_
      refine Z_i2l 21 rfl (by omega) ?_
      refine Z_callSbp (M' := M_M_in) 22 [] rfl l_M_80 C_M_in (c_M_in l _ _ _ (by omega) (by omega) (by omega)) ⟨List.nodup_nil, zEL.n⟩ rfl rfl rfl (Nat.le_of_ble_eq_true rfl) ⟨rfl, rfl, Nat.le_of_ble_eq_true rfl, Nat.le_of_ble_eq_true rfl⟩ ⟨Nat.zero_le _, Nat.zero_le _⟩ ?_
      refine Z_ifb_ne 23 rfl (tgt := 42) rfl (fun c36 => ?_) (fun c36 => ?_)
      · refine Z_aload_n 26 rfl rfl rfl ?_
        refine Z_get 27 rfl f_M_59 rfl rfl ?_
        refine Z_bipush 28 rfl rfl ?_
        refine Z_iload_n 29 rfl rfl rfl ?_
        refine Z_imul 30 rfl ?_
        refine Z_iload_n 31 rfl rfl rfl ?_
        refine Z_iadd 32 rfl ?_
        refine Z_lload_n 33 rfl rfl rfl ?_
        refine Z_las 34 rfl rfl (by omega) (by decide) (mem' := eM ((p.1, p.2.1, p.2.2.1, p.2.2.2.1, p.2.2.2.2.1, uI p.rp (30 * r + i) v, p.2.2.2.2.2.2)) he fa li sl be ov av bl kw sm ma mf mw cj) rfl ?_
        refine Z_iconst 35 rfl ?_
        refine Z_iret 36 rfl rfl ⟨Nat.le_refl _, Nat.le_refl _⟩ ?_
        exact ⟨by unfold setF; (repeat (first | rw [cif_t (by first | assumption | omega)] | rw [cif_f (by first | assumption | omega)])), by unfold setF; (repeat (first | rw [cif_t (by first | assumption | omega)] | rw [cif_f (by first | assumption | omega)])); rw [show r * 30 + i = 30 * r + i by omega]⟩
      · refine Z_bipush 24 rfl rfl ?_
        refine Z_iret 25 rfl rfl ⟨Nat.le_refl _, Nat.le_refl _⟩ ?_
        exact ⟨by unfold setF; (repeat (first | rw [cif_t (by first | assumption | omega)] | rw [cif_f (by first | assumption | omega)])), by unfold setF; (repeat (first | rw [cif_t (by first | assumption | omega)] | rw [cif_f (by first | assumption | omega)])) <;> rfl⟩
    · refine Z_bipush 10 rfl rfl ?_
      refine Z_iret 11 rfl rfl ⟨Nat.le_refl _, Nat.le_refl _⟩ ?_
      exact ⟨by unfold setF; (repeat (first | rw [cif_t (by first | assumption | omega)] | rw [cif_f (by first | assumption | omega)])), by unfold setF; (repeat (first | rw [cif_t (by first | assumption | omega)] | rw [cif_f (by first | assumption | omega)])) <;> rfl⟩
  · refine Z_iconst 3 rfl ?_
    refine Z_iret 4 rfl rfl ⟨Nat.le_refl _, Nat.le_refl _⟩ ?_
    exact ⟨by unfold setF; (repeat (first | rw [cif_t (by first | assumption | omega)] | rw [cif_f (by first | assumption | omega)])), by unfold setF; (repeat (first | rw [cif_t (by first | assumption | omega)] | rw [cif_f (by first | assumption | omega)])) <;> rfl⟩
theorem c_M_get (h : MV p) (r i he fa li sl be ov av bl : Int) (hr : inI r) (hi : inI i) : Con l M_M_get R_M_get 0 0 false [.ref 0, .int (iI r), .int (iI i)] (eM p he fa li sl be ov av bl kw sm ma mf mw cj) (zAl (getF p.rp p.rz r i) (fun m => m = eM p he fa li sl be ov av bl kw sm ma mf mw cj)) := by
  have hzr := h.2.2.2.2.2.2.2 r
  refine Con.of_Z (by decide) D_M_get (Nat.le_of_ble_eq_true rfl) ?_
  refine Z_iload_n 0 rfl rfl rfl ?_
  refine Z_callSbp (M' := M_M_isList) 1 [] rfl l_M_307 C_M_isList (c_M_isList l _ (by omega)) ⟨List.nodup_nil, zEL.n⟩ rfl rfl rfl (Nat.le_of_ble_eq_true rfl) ⟨rfl, rfl, Nat.le_of_ble_eq_true rfl, Nat.le_of_ble_eq_true rfl⟩ ⟨Nat.zero_le _, Nat.zero_le _⟩ ?_
  refine Z_ifb_eq 2 rfl (tgt := 39) rfl (fun c4 => ?_) (fun c4 => ?_)
  · refine Z_ldc2 24 rfl k_M_205 (c := -9223372036854775808) rfl ?_
    refine Z_lret 25 rfl rfl ⟨Nat.le_refl _, Nat.le_refl _⟩ ?_
    exact ⟨by unfold getF; first | (rw [cif_f (show ¬ ((0 ≤ r ∧ r < 4) ∧ 0 ≤ i ∧ i < p.rz r) by omega)]; rfl) | (rw [cif_t (show (0 ≤ r ∧ r < 4) ∧ 0 ≤ i ∧ i < p.rz r by omega), show r * 30 + i = 30 * r + i by omega]), rfl⟩
  · refine Z_iload_n 3 rfl rfl rfl ?_
    refine Z_i2l 4 rfl (by omega) ?_
    refine Z_lconst 5 rfl ?_
    refine Z_aload_n 6 rfl rfl rfl ?_
    refine Z_get 7 rfl f_M_56 rfl rfl ?_
    refine Z_iload_n 8 rfl rfl rfl ?_
    refine Z_ia 9 rfl rfl (by omega) (by decide) ?_
    refine Z_iconst 10 rfl ?_
    refine Z_isub 11 rfl ?_
    refine Z_i2l 12 rfl (by omega) ?_
    refine Z_callSbp (M' := M_M_in) 13 [] rfl l_M_80 C_M_in (c_M_in l _ _ _ (by omega) (by omega) (by omega)) ⟨List.nodup_nil, zEL.n⟩ rfl rfl rfl (Nat.le_of_ble_eq_true rfl) ⟨rfl, rfl, Nat.le_of_ble_eq_true rfl, Nat.le_of_ble_eq_true rfl⟩ ⟨Nat.zero_le _, Nat.zero_le _⟩ ?_
    refine Z_ifb_eq 14 rfl (tgt := 39) rfl (fun c22 => ?_) (fun c22 => ?_)
    · refine Z_ldc2 24 rfl k_M_205 (c := -9223372036854775808) rfl ?_
      refine Z_lret 25 rfl rfl ⟨Nat.le_refl _, Nat.le_refl _⟩ ?_
      exact ⟨by unfold getF; first | (rw [cif_f (show ¬ ((0 ≤ r ∧ r < 4) ∧ 0 ≤ i ∧ i < p.rz r) by omega)]; rfl) | (rw [cif_t (show (0 ≤ r ∧ r < 4) ∧ 0 ≤ i ∧ i < p.rz r by omega), show r * 30 + i = 30 * r + i by omega]), rfl⟩
    · refine Z_aload_n 15 rfl rfl rfl ?_
      refine Z_get 16 rfl f_M_59 rfl rfl ?_
      refine Z_bipush 17 rfl rfl ?_
      refine Z_iload_n 18 rfl rfl rfl ?_
      refine Z_imul 19 rfl ?_
      refine Z_iload_n 20 rfl rfl rfl ?_
      refine Z_iadd 21 rfl ?_
      refine Z_la 22 rfl rfl (by omega) (by decide) ?_
      refine Z_goto 23 rfl (tgt := 42) rfl ?_
      refine Z_lret 25 rfl rfl ⟨Nat.le_refl _, Nat.le_refl _⟩ ?_
      exact ⟨by unfold getF; first | (rw [cif_f (show ¬ ((0 ≤ r ∧ r < 4) ∧ 0 ≤ i ∧ i < p.rz r) by omega)]; rfl) | (rw [cif_t (show (0 ≤ r ∧ r < 4) ∧ 0 ≤ i ∧ i < p.rz r by omega), show r * 30 + i = 30 * r + i by omega]), rfl⟩
def imgM (p : MP) : MP := (p.1, p.2.1, p.2.2.1, p.2.2.2.1, p.2.2.2.2.1, p.2.2.2.2.2.1, p.2.2.2.2.2.2.1, tCp p.pt p.t, cpI p.s p.ps 6)
def undM (p : MP) : MP := (tCp p.t p.pt, cpI p.ps p.s 6, p.2.2)
noncomputable def undG (p : MP) : Int × MP := cif (p.pt.2.2.2 = -1) (-3, p) (p.pt.2.2.2, undM p)
theorem c_M_image (h : MV p) (he fa li sl be ov av bl : Int) : Con l M_M_image R_M_image 0 0 false [.ref 0] (eM p he fa li sl be ov av bl kw sm ma mf mw cj) (zAi p.t.2.2.2 (fun m => m = eM (imgM p) he fa li sl be ov av bl kw sm ma mf mw cj)) := by
  refine Con.of_Z (by decide) D_M_image (Nat.le_of_ble_eq_true rfl) ?_
  refine Z_aload_n 0 rfl rfl rfl ?_
  refine Z_aload_n 1 rfl rfl rfl ?_
  refine Z_get 2 rfl f_M_77 rfl rfl ?_
  refine Z_put 3 rfl f_M_62 rfl (Nat.le_of_ble_eq_true rfl) (fun _ => ⟨rfl, rfl⟩) (fs' := []) (mem' := eM ((p.1, p.2.1, p.2.2.1, p.2.2.2.1, p.2.2.2.2.1, p.2.2.2.2.2.1, p.2.2.2.2.2.2.1, (p.pt.1, p.pt.2.1, p.pt.2.2.1, p.t.2.2.2), p.ps)) he fa li sl be ov av bl kw sm ma mf mw cj) rfl ?_
  refine Z_aload_n 4 rfl rfl rfl ?_
  refine Z_get 5 rfl f_M_11 rfl rfl ?_
  refine Z_iconst 6 rfl ?_
  refine Z_aload_n 7 rfl rfl rfl ?_
  refine Z_get 8 rfl f_M_65 rfl rfl ?_
  refine Z_iconst 9 rfl ?_
  refine Z_bipush 10 rfl rfl ?_
  refine Z_copy 11 rfl l_M_277 b_nt_copy b_st_copy b_ini_Sys rfl rfl (by omega) (Nat.le_of_ble_eq_true rfl) (Nat.le_of_ble_eq_true rfl) (mem' := eM ((p.1, p.2.1, p.2.2.1, p.2.2.2.1, p.2.2.2.2.1, p.2.2.2.2.2.1, p.2.2.2.2.2.2.1, (cpI p.t.1 p.pt.1 12, p.pt.2.1, p.pt.2.2.1, p.t.2.2.2), p.ps)) he fa li sl be ov av bl kw sm ma mf mw cj) rfl ?_
  refine Z_aload_n 12 rfl rfl rfl ?_
  refine Z_get 13 rfl f_M_15 rfl rfl ?_
  refine Z_iconst 14 rfl ?_
  refine Z_aload_n 15 rfl rfl rfl ?_
  refine Z_get 16 rfl f_M_68 rfl rfl ?_
  refine Z_iconst 17 rfl ?_
  refine Z_bipush 18 rfl rfl ?_
  refine Z_copy 19 rfl l_M_277 b_nt_copy b_st_copy b_ini_Sys rfl rfl (by omega) (Nat.le_of_ble_eq_true rfl) (Nat.le_of_ble_eq_true rfl) (mem' := eM ((p.1, p.2.1, p.2.2.1, p.2.2.2.1, p.2.2.2.2.1, p.2.2.2.2.2.1, p.2.2.2.2.2.2.1, (cpI p.t.1 p.pt.1 12, cpI p.t.2.1 p.pt.2.1 12, p.pt.2.2.1, p.t.2.2.2), p.ps)) he fa li sl be ov av bl kw sm ma mf mw cj) rfl ?_
  refine Z_aload_n 20 rfl rfl rfl ?_
  refine Z_get 21 rfl f_M_18 rfl rfl ?_
  refine Z_iconst 22 rfl ?_
  refine Z_aload_n 23 rfl rfl rfl ?_
  refine Z_get 24 rfl f_M_71 rfl rfl ?_
  refine Z_iconst 25 rfl ?_
  refine Z_bipush 26 rfl rfl ?_
  refine Z_copy 27 rfl l_M_277 b_nt_copy b_st_copy b_ini_Sys rfl rfl (by omega) (Nat.le_of_ble_eq_true rfl) (Nat.le_of_ble_eq_true rfl) (mem' := eM ((p.1, p.2.1, p.2.2.1, p.2.2.2.1, p.2.2.2.2.1, p.2.2.2.2.2.1, p.2.2.2.2.2.2.1, (cpI p.t.1 p.pt.1 12, cpI p.t.2.1 p.pt.2.1 12, cpI p.t.2.2.1 p.pt.2.2.1 12, p.t.2.2.2), p.ps)) he fa li sl be ov av bl kw sm ma mf mw cj) rfl ?_
  refine Z_aload_n 28 rfl rfl rfl ?_
  refine Z_get 29 rfl f_M_21 rfl rfl ?_
  refine Z_iconst 30 rfl ?_
  refine Z_aload_n 31 rfl rfl rfl ?_
  refine Z_get 32 rfl f_M_74 rfl rfl ?_
  refine Z_iconst 33 rfl ?_
  refine Z_bipush 34 rfl rfl ?_
  refine Z_copy 35 rfl l_M_277 b_nt_copy b_st_copy b_ini_Sys rfl rfl (by omega) (Nat.le_of_ble_eq_true rfl) (Nat.le_of_ble_eq_true rfl) (mem' := eM ((p.1, p.2.1, p.2.2.1, p.2.2.2.1, p.2.2.2.2.1, p.2.2.2.2.2.1, p.2.2.2.2.2.2.1, (cpI p.t.1 p.pt.1 12, cpI p.t.2.1 p.pt.2.1 12, cpI p.t.2.2.1 p.pt.2.2.1 12, p.t.2.2.2), cpI p.s p.ps 6)) he fa li sl be ov av bl kw sm ma mf mw cj) rfl ?_
  refine Z_aload_n 36 rfl rfl rfl ?_
  refine Z_get 37 rfl f_M_77 rfl rfl ?_
  refine Z_iret 38 rfl rfl ⟨Nat.le_refl _, Nat.le_refl _⟩ ?_
  exact ⟨rfl, rfl⟩
theorem c_M_undo (h : MV p) (he fa li sl be ov av bl : Int) : Con l M_M_undo R_M_undo 0 0 false [.ref 0] (eM p he fa li sl be ov av bl kw sm ma mf mw cj) (zAi (undG p).1 (fun m => m = eM ((undG p).2) he fa li sl be ov av bl kw sm ma mf mw cj)) := by
  have hp : -1 ≤ p.pt.2.2.2 ∧ p.pt.2.2.2 ≤ 12 := by
    rcases h.2.2.1 with z | z
    · omega
    · have := z.1.1.1; omega
  refine Con.of_Z (by decide) D_M_undo (Nat.le_of_ble_eq_true rfl) ?_
  refine Z_aload_n 0 rfl rfl rfl ?_
  refine Z_get 1 rfl f_M_62 rfl rfl ?_
  refine Z_iconst 2 rfl ?_
  refine Z_icmp_ne 3 rfl (tgt := 11) rfl (by omega) (by omega) (fun c5 => ?_) (fun c5 => ?_)
  · refine Z_aload_n 6 rfl rfl rfl ?_
    refine Z_aload_n 7 rfl rfl rfl ?_
    refine Z_get 8 rfl f_M_62 rfl rfl ?_
    refine Z_put 9 rfl f_M_77 rfl (Nat.le_of_ble_eq_true rfl) (fun _ => ⟨rfl, rfl⟩) (fs' := []) (mem' := eM ((p.t.1, p.t.2.1, p.t.2.2.1, p.pt.2.2.2), p.2) he fa li sl be ov av bl kw sm ma mf mw cj) rfl ?_
    refine Z_aload_n 10 rfl rfl rfl ?_
    refine Z_get 11 rfl f_M_65 rfl rfl ?_
    refine Z_iconst 12 rfl ?_
    refine Z_aload_n 13 rfl rfl rfl ?_
    refine Z_get 14 rfl f_M_11 rfl rfl ?_
    refine Z_iconst 15 rfl ?_
    refine Z_bipush 16 rfl rfl ?_
    refine Z_copy 17 rfl l_M_277 b_nt_copy b_st_copy b_ini_Sys rfl rfl (by omega) (Nat.le_of_ble_eq_true rfl) (Nat.le_of_ble_eq_true rfl) (mem' := eM ((cpI p.pt.1 p.t.1 12, p.t.2.1, p.t.2.2.1, p.pt.2.2.2), p.2) he fa li sl be ov av bl kw sm ma mf mw cj) rfl ?_
    refine Z_aload_n 18 rfl rfl rfl ?_
    refine Z_get 19 rfl f_M_68 rfl rfl ?_
    refine Z_iconst 20 rfl ?_
    refine Z_aload_n 21 rfl rfl rfl ?_
    refine Z_get 22 rfl f_M_15 rfl rfl ?_
    refine Z_iconst 23 rfl ?_
    refine Z_bipush 24 rfl rfl ?_
    refine Z_copy 25 rfl l_M_277 b_nt_copy b_st_copy b_ini_Sys rfl rfl (by omega) (Nat.le_of_ble_eq_true rfl) (Nat.le_of_ble_eq_true rfl) (mem' := eM ((cpI p.pt.1 p.t.1 12, cpI p.pt.2.1 p.t.2.1 12, p.t.2.2.1, p.pt.2.2.2), p.2) he fa li sl be ov av bl kw sm ma mf mw cj) rfl ?_
    refine Z_aload_n 26 rfl rfl rfl ?_
    refine Z_get 27 rfl f_M_71 rfl rfl ?_
    refine Z_iconst 28 rfl ?_
    refine Z_aload_n 29 rfl rfl rfl ?_
    refine Z_get 30 rfl f_M_18 rfl rfl ?_
    refine Z_iconst 31 rfl ?_
    refine Z_bipush 32 rfl rfl ?_
    refine Z_copy 33 rfl l_M_277 b_nt_copy b_st_copy b_ini_Sys rfl rfl (by omega) (Nat.le_of_ble_eq_true rfl) (Nat.le_of_ble_eq_true rfl) (mem' := eM ((cpI p.pt.1 p.t.1 12, cpI p.pt.2.1 p.t.2.1 12, cpI p.pt.2.2.1 p.t.2.2.1 12, p.pt.2.2.2), p.2) he fa li sl be ov av bl kw sm ma mf mw cj) rfl ?_
    refine Z_aload_n 34 rfl rfl rfl ?_
    refine Z_get 35 rfl f_M_74 rfl rfl ?_
    refine Z_iconst 36 rfl ?_
    refine Z_aload_n 37 rfl rfl rfl ?_
    refine Z_get 38 rfl f_M_21 rfl rfl ?_
    refine Z_iconst 39 rfl ?_
    refine Z_bipush 40 rfl rfl ?_
    refine Z_copy 41 rfl l_M_277 b_nt_copy b_st_copy b_ini_Sys rfl rfl (by omega) (Nat.le_of_ble_eq_true rfl) (Nat.le_of_ble_eq_true rfl) (mem' := eM (undM p) he fa li sl be ov av bl kw sm ma mf mw cj) rfl ?_
    refine Z_aload_n 42 rfl rfl rfl ?_
    refine Z_get 43 rfl f_M_77 rfl rfl ?_
    refine Z_iret 44 rfl rfl ⟨Nat.le_refl _, Nat.le_refl _⟩ ?_
    exact ⟨by unfold undG; (repeat (first | rw [cif_t (by first | assumption | omega)] | rw [cif_f (by first | assumption | omega)])) <;> rfl, by unfold undG; (repeat (first | rw [cif_t (by first | assumption | omega)] | rw [cif_f (by first | assumption | omega)])) <;> rfl⟩
  · refine Z_bipush 4 rfl rfl ?_
    refine Z_iret 5 rfl rfl ⟨Nat.le_refl _, Nat.le_refl _⟩ ?_
    exact ⟨by unfold undG; (repeat (first | rw [cif_t (by first | assumption | omega)] | rw [cif_f (by first | assumption | omega)])) <;> rfl, by unfold undG; (repeat (first | rw [cif_t (by first | assumption | omega)] | rw [cif_f (by first | assumption | omega)])) <;> rfl⟩
theorem c_M_feed (h : MV p) (v he fa li sl be ov av bl : Int) (hv : inI v) : Con l M_M_feed R_M_feed 0 0 false [.ref 0, .int (iI v)] (eM p he fa li sl be ov av bl kw sm ma mf mw cj) (zAi (feedF p.tb p.ts v).1 (fun m => m = eM ((p.1, p.2.1, (feedF p.tb p.ts v).2.1, (feedF p.tb p.ts v).2.2, p.2.2.2.2)) he fa li sl be ov av bl kw sm ma mf mw cj)) := by
  have hts := h.2.2.2.2.2.1
  refine Con.of_Z (by decide) D_M_feed (Nat.le_of_ble_eq_true rfl) ?_
  refine Z_iload_n 0 rfl rfl rfl ?_
  refine Z_i2l 1 rfl (by omega) ?_
  refine Z_lconst 2 rfl ?_
  refine Z_ldc2 3 rfl k_M_314 (c := 127) rfl ?_
  refine Z_callSbp (M' := M_M_in) 4 [] rfl l_M_80 C_M_in (c_M_in l _ _ _ (by omega) (by omega) (by omega)) ⟨List.nodup_nil, zEL.n⟩ rfl rfl rfl (Nat.le_of_ble_eq_true rfl) ⟨rfl, rfl, Nat.le_of_ble_eq_true rfl, Nat.le_of_ble_eq_true rfl⟩ ⟨Nat.zero_le _, Nat.zero_le _⟩ ?_
  refine Z_ifb_ne 5 rfl (tgt := 15) rfl (fun c9 => ?_) (fun c9 => ?_)
  · refine Z_aload_n 8 rfl rfl rfl ?_
    refine Z_get 9 rfl f_M_123 rfl rfl ?_
    refine Z_bipush 10 rfl rfl ?_
    refine Z_icmp_ne 11 rfl (tgt := 27) rfl (by omega) (by omega) (fun c21 => ?_) (fun c21 => ?_)
    · refine Z_aload_n 14 rfl rfl rfl ?_
      refine Z_get 15 rfl f_M_37 rfl rfl ?_
      refine Z_aload_n 16 rfl rfl rfl ?_
      refine Z_get 17 rfl f_M_123 rfl rfl ?_
      refine Z_iload_n 18 rfl rfl rfl ?_
      refine Z_ias 19 rfl rfl (by omega) (by decide) (mem' := eM ((p.1, p.2.1, uI p.tb p.ts v, p.ts, p.2.2.2.2)) he fa li sl be ov av bl kw sm ma mf mw cj) rfl ?_
      refine Z_aload_n 20 rfl rfl rfl ?_
      refine Z_dup 21 rfl rfl ?_
      refine Z_get 22 rfl f_M_123 rfl rfl ?_
      refine Z_iconst 23 rfl ?_
      refine Z_iadd 24 rfl ?_
      refine Z_put 25 rfl f_M_123 rfl (Nat.le_of_ble_eq_true rfl) (fun _ => ⟨rfl, rfl⟩) (fs' := []) (mem' := eM ((p.1, p.2.1, uI p.tb p.ts v, p.ts + 1, p.2.2.2.2)) he fa li sl be ov av bl kw sm ma mf mw cj) rfl ?_
      refine Z_aload_n 26 rfl rfl rfl ?_
      refine Z_get 27 rfl f_M_123 rfl rfl ?_
      refine Z_iret 28 rfl rfl ⟨Nat.le_refl _, Nat.le_refl _⟩ ?_
      exact ⟨by unfold feedF; (repeat (first | rw [cif_t (by first | assumption | omega)] | rw [cif_f (by first | assumption | omega)])), by unfold feedF; (repeat (first | rw [cif_t (by first | assumption | omega)] | rw [cif_f (by first | assumption | omega)])) <;> rfl⟩
    · refine Z_bipush 12 rfl rfl ?_
      refine Z_iret 13 rfl rfl ⟨Nat.le_refl _, Nat.le_refl _⟩ ?_
      exact ⟨by unfold feedF; (repeat (first | rw [cif_t (by first | assumption | omega)] | rw [cif_f (by first | assumption | omega)])), by unfold feedF; (repeat (first | rw [cif_t (by first | assumption | omega)] | rw [cif_f (by first | assumption | omega)])) <;> rfl⟩
  · refine Z_bipush 6 rfl rfl ?_
    refine Z_iret 7 rfl rfl ⟨Nat.le_refl _, Nat.le_refl _⟩ ?_
    exact ⟨by unfold feedF; (repeat (first | rw [cif_t (by first | assumption | omega)] | rw [cif_f (by first | assumption | omega)])), by unfold feedF; (repeat (first | rw [cif_t (by first | assumption | omega)] | rw [cif_f (by first | assumption | omega)])) <;> rfl⟩
theorem c_M_clear (he fa li sl be ov av bl : Int) : Con l M_M_clear R_M_clear 0 0 false [.ref 0] (eM p he fa li sl be ov av bl kw sm ma mf mw cj) (zAi p.ts (fun m => m = eM ((p.1, p.2.1, p.tb, 0, p.2.2.2.2)) he fa li sl be ov av bl kw sm ma mf mw cj)) := by
  refine Con.of_Z (by decide) D_M_clear (Nat.le_of_ble_eq_true rfl) ?_
  refine Z_aload_n 0 rfl rfl rfl ?_
  refine Z_get 1 rfl f_M_123 rfl rfl ?_
  refine Z_istore_n 2 rfl rfl (Nat.le_of_ble_eq_true rfl) (lv' := [(1, .int _), (0, .ref _)]) rfl ?_
  refine Z_aload_n 3 rfl rfl rfl ?_
  refine Z_iconst 4 rfl ?_
  refine Z_put 5 rfl f_M_123 rfl (Nat.le_of_ble_eq_true rfl) (fun _ => ⟨rfl, rfl⟩) (fs' := []) (mem' := eM ((p.1, p.2.1, p.tb, 0, p.2.2.2.2)) he fa li sl be ov av bl kw sm ma mf mw cj) rfl ?_
  refine Z_iload_n 6 rfl rfl rfl ?_
  refine Z_iret 7 rfl rfl ⟨Nat.le_refl _, Nat.le_refl _⟩ ?_
  exact ⟨rfl, rfl⟩
theorem c_M_cause (he fa li sl be ov av bl : Int) : Con l M_M_cause R_M_cause 0 0 false [.ref 0] (eM p he fa li sl be ov av bl kw sm ma mf mw cj) (zAi p.lc (fun m => m = eM p he fa li sl be ov av bl kw sm ma mf mw cj)) := by
  refine Con.of_Z (by decide) D_M_cause (Nat.le_of_ble_eq_true rfl) ?_
  refine Z_aload_n 0 rfl rfl rfl ?_
  refine Z_get 1 rfl f_M_40 rfl rfl ?_
  refine Z_iret 2 rfl rfl ⟨Nat.le_refl _, Nat.le_refl _⟩ ?_
  exact ⟨rfl, rfl⟩
end M9
