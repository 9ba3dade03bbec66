/-! the model: searches -/
/-- the force by other settings -/
def frX (S : Int → Int) (st sp : Int) (s : SS) : Int := S 3 * s.1 + st * lf s + 3249 * S 1 * sp * sp * s.2.2.2.1
theorem frX_f (S : Int → Int) (s : SS) : frX S (S 2) (S 4) s = frc S s := fo_f S s
theorem frX_st (S : Int → Int) (x : Int) (s : SS) : frX S x (S 4) s = (prl S s + ine S s) + lf s * x := by
  unfold frX prl ine
  grind
theorem frX_sp (S : Int → Int) (x : Int) (s : SS) : frX S (S 2) x s = (prl S s + spr S s) + S 1 * 3249 * s.2.2.2.1 * (x * x) := by
  unfold frX prl spr
  grind
section M5
variable (l : Launch) (p : MP) (av bl : Int) (kw sm : Int → Int) (ma mf mw : Int) (cj : TT)
theorem lp_M_isSo (h : MV p) (a what : Int) (ha : inI a) (hw : what = 0 ∨ what = 1) : ∀ (d : Nat) (sd he fa li sl be ov : Int), (0 ≤ sd ∧ sd ≤ 2) → 2 - sd < d → (∀ k u sd', sd' < sd → At p.t a sd' k u → ¬ conV p.s what (pl p.t k u) ≤ 0) → Z (l, M_M_isSo, R_M_isSo, (0, 0), false, zAb (∃ k u, Vis p.t a k u ∧ conV p.s what (pl p.t k u) ≤ 0) (LM p av bl kw sm ma mf mw cj)) 0 0 (eM p he fa li sl be ov av bl kw sm ma mf mw cj) 2 [(0, .ref 0), (1, .int (iI a)), (2, .int (iI what)), (3, .int (iI sd))] [] := by
  have hS := h.2.1
  unfold SB at hS
  intro d
  induction d with
  | zero => intro sd he fa li sl be ov h1 h2; omega
  | succ d ih =>
    intro sd he fa li sl be ov h1 h2 h3
    refine Z_iload_n 2 rfl rfl rfl ?_
    refine Z_iconst 3 rfl ?_
    refine Z_icmp_ge 4 rfl (tgt := 56) rfl (by omega) (by omega) (fun c4 => ?_) (fun c4 => ?_)
    · refine Z_iconst 32 rfl ?_
      refine Z_zret 33 rfl rfl rfl ⟨Nat.le_refl _, Nat.le_refl _⟩ ?_
      exact ⟨bF (fun ⟨k, u, z1, z2⟩ => by
        obtain ⟨s, z3⟩ := (Vis_At h.1).mp z1
        have := At_in h.1 z3
        exact h3 k u s (by omega) z3 z2), _, _, _, _, _, _, rfl⟩
    · refine Z_aload_n 5 rfl rfl rfl ?_
      refine Z_iload_n 6 rfl rfl rfl ?_
      refine Z_iload_n 7 rfl rfl rfl ?_
      refine Z_callVb (M' := M_M_looks) 8 isM rfl l_M_202 C_M_looks (c_M_looks l p he fa li sl be ov av bl kw sm ma mf mw cj h a sd ha (by omega)) (emM ..) (Or.inl ⟨_, _, _, _, rfl, rfl⟩) rfl rfl rfl (Nat.le_of_ble_eq_true rfl) ⟨rfl, rfl, Nat.le_of_ble_eq_true rfl, Nat.le_of_ble_eq_true rfl⟩ ⟨Nat.zero_le _, Nat.zero_le _⟩ (fun out hq => ?_)
      obtain ⟨he', fa', li', sl', be', ov', rfl, hL⟩ := hq
      refine Z_mem (mgM ..) ?_
      refine Z_ifb_eq 9 rfl (tgt := 50) rfl (fun c13 => ?_) (fun c13 => ?_)
      · refine Z_iinc 30 rfl rfl (Nat.le_of_ble_eq_true rfl) (lv' := [(3, .int _), (0, .ref _), (1, .int _), (2, .int _)]) rfl ?_
        refine Z_goto 31 rfl (tgt := 2) rfl ?_
        refine Z_pick [0, 1, 2, 3] (lv' := [(0, .ref _), (1, .int _), (2, .int _), (3, .int _)]) rfl ?_
        refine ih (sd + 1) _ _ _ _ _ _ (by omega) (by omega) (fun k u s z1 z2 => ?_)
        by_cases z : s = sd
        · rw [z] at z2
          first | exact absurd ⟨k, u, z2⟩ c13 | (obtain ⟨y1, y2⟩ := At_un h.1 hA z2; rw [← y1, ← y2]; omega)
        · exact h3 k u s (by omega) z2
      · obtain ⟨kk, uu, hA⟩ := c13
        obtain ⟨e1, e2, e3, e4, e5, e6⟩ := hL kk uu hA
        rw [e1, e2, e3, e4, e5, e6]
        have hI := At_in h.1 hA
        have hb := mp_bd h.1 ⟨hI.1.1, hI.1.2.1⟩ hI.2.1
        obtain ⟨cc, k0, k1, k2, k3, k4⟩ := mp_x h.1 hA
        have q := sc_pos (x := conV p.s what (pl p.t kk uu)) k0
        have ec0 := (cu_c (S := p.s) k1 k3 k4).1
        have ec1 := fo_c (S := p.s) (p.s 2) (p.s 4) k1 k3 k4
        rw [fo_f] at ec1
        have hc0 := (cs_bd h.2.1 (c := 0) hb.1 hb.2.2.1 hb.2.2.2).1
        have hc1 := fs_bd h.2.1 hb.1 hb.2.2.1 hb.2.2.2 (st := p.s 2) (sp := p.s 4) (by omega) (by omega)
        refine Z_iload_n 10 rfl rfl rfl ?_
        refine Z_if_ne 11 rfl (tgt := 27) rfl (by omega) (fun c17 => ?_) (fun c17 => ?_)
        · refine Z_aload_n 15 rfl rfl rfl ?_
          refine Z_aload_n 16 rfl rfl rfl ?_
          refine Z_get 17 rfl f_M_21 rfl rfl ?_
          refine Z_iconst 18 rfl ?_
          refine Z_ia 19 rfl rfl (by omega) (by decide) ?_
          refine Z_aload_n 20 rfl rfl rfl ?_
          refine Z_get 21 rfl f_M_21 rfl rfl ?_
          refine Z_iconst 22 rfl ?_
          refine Z_ia 23 rfl rfl (by omega) (by decide) ?_
          refine Z_callVlp (M' := M_M_forceNow) 24 isM rfl l_M_241 C_M_forceNow (c_M_forceNow l p kk uu (mpL p.t kk uu) (mpS p.t kk uu) (mpB p.t kk uu) (mpO p.t kk) av bl kw sm ma mf mw cj h.2.1 (p.s 2) (p.s 4) (by omega) (by omega)) (emM ..) (Or.inl ⟨_, _, _, _, rfl, rfl⟩) rfl rfl rfl (Nat.le_of_ble_eq_true rfl) ⟨rfl, rfl, Nat.le_of_ble_eq_true rfl, Nat.le_of_ble_eq_true rfl⟩ ⟨Nat.zero_le _, Nat.zero_le _⟩ ?_
          have hW : -4900000000000000000 ≤ cc * conV p.s what (pl p.t kk uu) ∧ cc * conV p.s what (pl p.t kk uu) ≤ 4900000000000000000 := by
            unfold conV
            first | (rw [if_pos (by omega)]; omega) | (rw [if_neg (by omega)]; omega)
          refine Z_cl (show _ = cc * conV p.s what (pl p.t kk uu) by unfold conV; first | (rw [if_pos (by omega)]; exact ec0) | (rw [if_neg (by omega)]; exact ec1)) ?_
          refine Z_lconst 25 rfl ?_
          refine Z_lc_gt 26 rfl rfl (tgt := 50) rfl (by omega) (by omega) (fun c44 => ?_) (fun c44 => ?_)
          · refine Z_iinc 30 rfl rfl (Nat.le_of_ble_eq_true rfl) (lv' := [(3, .int _), (0, .ref _), (1, .int _), (2, .int _)]) rfl ?_
            refine Z_goto 31 rfl (tgt := 2) rfl ?_
            refine Z_pick [0, 1, 2, 3] (lv' := [(0, .ref _), (1, .int _), (2, .int _), (3, .int _)]) rfl ?_
            refine ih (sd + 1) _ _ _ _ _ _ (by omega) (by omega) (fun k u s z1 z2 => ?_)
            by_cases z : s = sd
            · rw [z] at z2
              first | exact absurd ⟨k, u, z2⟩ c13 | (obtain ⟨y1, y2⟩ := At_un h.1 hA z2; rw [← y1, ← y2]; omega)
            · exact h3 k u s (by omega) z2
          · refine Z_iconst 28 rfl ?_
            refine Z_zret 29 rfl rfl rfl ⟨Nat.le_refl _, Nat.le_refl _⟩ ?_
            exact ⟨bT ⟨kk, uu, (Vis_At h.1).mpr ⟨sd, hA⟩, by omega⟩, _, _, _, _, _, _, rfl⟩
        · refine Z_aload_n 12 rfl rfl rfl ?_
          refine Z_callVlp (M' := M_M_curveNow) 13 isM rfl l_M_235 C_M_curveNow (c_M_curveNow l p kk uu (mpL p.t kk uu) (mpS p.t kk uu) (mpB p.t kk uu) (mpO p.t kk) av bl kw sm ma mf mw cj h.2.1) (emM ..) (Or.inl ⟨_, _, _, _, rfl, rfl⟩) rfl rfl rfl (Nat.le_of_ble_eq_true rfl) ⟨rfl, rfl, Nat.le_of_ble_eq_true rfl, Nat.le_of_ble_eq_true rfl⟩ ⟨Nat.zero_le _, Nat.zero_le _⟩ ?_
          refine Z_goto 14 rfl (tgt := 43) rfl ?_
          have hW : -4900000000000000000 ≤ cc * conV p.s what (pl p.t kk uu) ∧ cc * conV p.s what (pl p.t kk uu) ≤ 4900000000000000000 := by
            unfold conV
            first | (rw [if_pos (by omega)]; omega) | (rw [if_neg (by omega)]; omega)
          refine Z_cl (show _ = cc * conV p.s what (pl p.t kk uu) by unfold conV; first | (rw [if_pos (by omega)]; exact ec0) | (rw [if_neg (by omega)]; exact ec1)) ?_
          refine Z_lconst 25 rfl ?_
          refine Z_lc_gt 26 rfl rfl (tgt := 50) rfl (by omega) (by omega) (fun c44 => ?_) (fun c44 => ?_)
          · refine Z_iinc 30 rfl rfl (Nat.le_of_ble_eq_true rfl) (lv' := [(3, .int _), (0, .ref _), (1, .int _), (2, .int _)]) rfl ?_
            refine Z_goto 31 rfl (tgt := 2) rfl ?_
            refine Z_pick [0, 1, 2, 3] (lv' := [(0, .ref _), (1, .int _), (2, .int _), (3, .int _)]) rfl ?_
            refine ih (sd + 1) _ _ _ _ _ _ (by omega) (by omega) (fun k u s z1 z2 => ?_)
            by_cases z : s = sd
            · rw [z] at z2
              first | exact absurd ⟨k, u, z2⟩ c13 | (obtain ⟨y1, y2⟩ := At_un h.1 hA z2; rw [← y1, ← y2]; omega)
            · exact h3 k u s (by omega) z2
          · refine Z_iconst 28 rfl ?_
            refine Z_zret 29 rfl rfl rfl ⟨Nat.le_refl _, Nat.le_refl _⟩ ?_
            exact ⟨bT ⟨kk, uu, (Vis_At h.1).mpr ⟨sd, hA⟩, by omega⟩, _, _, _, _, _, _, rfl⟩
theorem c_M_isSo (h : MV p) (a what : Int) (ha : inI a) (hw : what = 0 ∨ what = 1) (he fa li sl be ov : Int) : Con l M_M_isSo R_M_isSo 0 0 false [.ref 0, .int (iI a), .int (iI what)] (eM p he fa li sl be ov av bl kw sm ma mf mw cj) (zAb (∃ k u, Vis p.t a k u ∧ conV p.s what (pl p.t k u) ≤ 0) (LM p av bl kw sm ma mf mw cj)) := by
  refine Con.of_Z (by decide) D_M_isSo (Nat.le_of_ble_eq_true rfl) ?_
  refine Z_iconst 0 rfl ?_
  refine Z_istore_n 1 rfl rfl (Nat.le_of_ble_eq_true rfl) (lv' := [(3, .int _), (0, .ref _), (1, .int _), (2, .int _)]) rfl ?_
  refine Z_pick [0, 1, 2, 3] (lv' := [(0, .ref _), (1, .int _), (2, .int _), (3, .int _)]) rfl ?_
  exact lp_M_isSo l p av bl kw sm ma mf mw cj h a what ha hw 3 0 _ _ _ _ _ _ (by omega) (by omega) (fun k u s z1 z2 => by have := At_in h.1 z2; omega)
theorem lp_M_count (h : MV p) (what : Int) (hw : what = 0 ∨ what = 1) : ∀ (d : Nat) (a he fa li sl be ov : Int), (0 ≤ a ∧ a ≤ tot p.t + 1) → tot p.t + 1 - a < d → Z (l, M_M_count, R_M_count, (0, 0), false, zAi (cnI (fun a => ∃ k u, Vis p.t a k u ∧ conV p.s what (pl p.t k u) ≤ 0) (tot p.t + 1)) (LM p av bl kw sm ma mf mw cj)) 0 0 (eM p he fa li sl be ov av bl kw sm ma mf mw cj) 16 [(0, .ref 0), (1, .int (iI what)), (2, .int (iI (cnI (fun a => ∃ k u, Vis p.t a k u ∧ conV p.s what (pl p.t k u) ≤ 0) a))), (3, .int (iI a))] [] := by
  have ht := TV_tot h.1
  intro d
  induction d with
  | zero => intro a he fa li sl be ov h1 h2; omega
  | succ d ih =>
    intro a he fa li sl be ov h1 h2
    have e := cnI_s (fun a => ∃ k u, Vis p.t a k u ∧ conV p.s what (pl p.t k u) ≤ 0) h1.1
    refine Z_iload_n 12 rfl rfl rfl ?_
    refine Z_aload_n 13 rfl rfl rfl ?_
    refine Z_callVip (M' := M_M_total) 14 isM rfl l_M_88 C_M_total (c_M_total l p he fa li sl be ov av bl kw sm ma mf mw cj h.1.1) (emM ..) (Or.inl ⟨_, _, _, _, rfl, rfl⟩) rfl rfl rfl (Nat.le_of_ble_eq_true rfl) ⟨rfl, rfl, Nat.le_of_ble_eq_true rfl, Nat.le_of_ble_eq_true rfl⟩ ⟨Nat.zero_le _, Nat.zero_le _⟩ ?_
    refine Z_icmp_gt 15 rfl (tgt := 42) rfl (by omega) (by omega) (fun c21 => ?_) (fun c21 => ?_)
    · refine Z_iload_n 24 rfl rfl rfl ?_
      refine Z_iret 25 rfl rfl ⟨Nat.le_refl _, Nat.le_refl _⟩ ?_
      exact ⟨by rw [show tot p.t + 1 = a by omega], _, _, _, _, _, _, rfl⟩
    · refine Z_aload_n 16 rfl rfl rfl ?_
      refine Z_iload_n 17 rfl rfl rfl ?_
      refine Z_iload_n 18 rfl rfl rfl ?_
      refine Z_callVb (M' := M_M_isSo) 19 isM rfl l_M_245 C_M_isSo (c_M_isSo l p av bl kw sm ma mf mw cj h a what (by omega) hw he fa li sl be ov) (emM ..) (Or.inl ⟨_, _, _, _, rfl, rfl⟩) rfl rfl rfl (Nat.le_of_ble_eq_true rfl) ⟨rfl, rfl, Nat.le_of_ble_eq_true rfl, Nat.le_of_ble_eq_true rfl⟩ ⟨Nat.zero_le _, Nat.zero_le _⟩ (fun out hq => ?_)
      obtain ⟨he', fa', li', sl', be', ov', rfl⟩ := hq
      refine Z_mem (mgM ..) ?_
      refine Z_ifb_eq 20 rfl (tgt := 36) rfl (fun c30 => ?_) (fun c30 => ?_)
      · refine Z_iinc 22 rfl rfl (Nat.le_of_ble_eq_true rfl) (lv' := [(3, .int _), (0, .ref _), (1, .int _), (2, .int _)]) rfl ?_
        refine Z_goto 23 rfl (tgt := 16) rfl ?_
        refine Z_pick [0, 1, 2, 3] (lv' := [(0, .ref _), (1, .int _), (2, .int _), (3, .int _)]) rfl ?_
        have hz := fun q1 q2 q3 q4 q5 q6 => ih (a + 1) q1 q2 q3 q4 q5 q6 (by omega) (by omega)
        first | (rw [e, bI_t c30] at hz; exact hz _ _ _ _ _ _) | (rw [e, bI_f c30, Int.add_zero] at hz; exact hz _ _ _ _ _ _)
      · refine Z_iinc 21 rfl rfl (Nat.le_of_ble_eq_true rfl) (lv' := [(2, .int _), (0, .ref _), (1, .int _), (3, .int _)]) rfl ?_
        refine Z_iinc 22 rfl rfl (Nat.le_of_ble_eq_true rfl) (lv' := [(3, .int _), (2, .int _), (0, .ref _), (1, .int _)]) rfl ?_
        refine Z_goto 23 rfl (tgt := 16) rfl ?_
        refine Z_pick [0, 1, 2, 3] (lv' := [(0, .ref _), (1, .int _), (2, .int _), (3, .int _)]) rfl ?_
        have hz := fun q1 q2 q3 q4 q5 q6 => ih (a + 1) q1 q2 q3 q4 q5 q6 (by omega) (by omega)
        first | (rw [e, bI_t c30] at hz; exact hz _ _ _ _ _ _) | (rw [e, bI_f c30, Int.add_zero] at hz; exact hz _ _ _ _ _ _)
theorem c_M_count (h : MV p) (what : Int) (hw : inI what) (he fa li sl be ov : Int) : Con l M_M_count R_M_count 0 0 false [.ref 0, .int (iI what)] (eM p he fa li sl be ov av bl kw sm ma mf mw cj) (zAi (countF p.t p.s what) (LM p av bl kw sm ma mf mw cj)) := by
  have ht := TV_tot h.1
  refine Con.of_Z (by decide) D_M_count (Nat.le_of_ble_eq_true rfl) ?_
  refine Z_iload_n 0 rfl rfl rfl ?_
  refine Z_i2l 1 rfl (by omega) ?_
  refine Z_lconst 2 rfl ?_
  refine Z_lconst 3 rfl ?_
  refine Z_callSbp (M' := M_M_in) 4 [] rfl l_M_80 C_M_in (c_M_in l _ _ _ (by omega) (by omega) (by omega)) ⟨List.nodup_nil, zEL.n⟩ rfl rfl rfl (Nat.le_of_ble_eq_true rfl) ⟨rfl, rfl, Nat.le_of_ble_eq_true rfl, Nat.le_of_ble_eq_true rfl⟩ ⟨Nat.zero_le _, Nat.zero_le _⟩ ?_
  refine Z_ifb_ne 5 rfl (tgt := 12) rfl (fun c7 => ?_) (fun c7 => ?_)
  · refine Z_iconst 8 rfl ?_
    refine Z_istore_n 9 rfl rfl (Nat.le_of_ble_eq_true rfl) (lv' := [(2, .int _), (0, .ref _), (1, .int _)]) rfl ?_
    refine Z_iconst 10 rfl ?_
    refine Z_istore_n 11 rfl rfl (Nat.le_of_ble_eq_true rfl) (lv' := [(3, .int _), (2, .int _), (0, .ref _), (1, .int _)]) rfl ?_
    refine Z_pick [0, 1, 2, 3] (lv' := [(0, .ref _), (1, .int _), (2, .int _), (3, .int _)]) rfl ?_
    unfold countF
    rw [cif_t (by omega)]
    exact lp_M_count l p av bl kw sm ma mf mw cj h what (by omega) 362 0 _ _ _ _ _ _ (by omega) (by omega)
  · refine Z_iconst 6 rfl ?_
    refine Z_iret 7 rfl rfl ⟨Nat.le_refl _, Nat.le_refl _⟩ ?_
    exact ⟨by unfold countF; (repeat (first | rw [cif_t (by first | assumption | omega)] | rw [cif_f (by first | assumption | omega)])), _, _, _, _, _, _, rfl⟩
theorem lp_M_floatsAt (h : MV p) (a st sp : Int) (ha : inI a) (hst : 0 ≤ st ∧ st ≤ 99) (hsp : 0 ≤ sp ∧ sp ≤ 30) : ∀ (d : Nat) (sd he fa li sl be ov : Int), (0 ≤ sd ∧ sd ≤ 2) → 2 - sd < d → (∀ k u sd', sd' < sd → At p.t a sd' k u → ¬ frX p.s st sp (pl p.t k u) ≤ 0) → Z (l, M_M_floatsAt, R_M_floatsAt, (0, 0), false, zAb (∃ k u, Vis p.t a k u ∧ frX p.s st sp (pl p.t k u) ≤ 0) (LM p av bl kw sm ma mf mw cj)) 0 0 (eM p he fa li sl be ov av bl kw sm ma mf mw cj) 3 [(0, .ref 0), (1, .int (iI a)), (2, .int (iI st)), (3, .int (iI sp)), (4, .int (iI sd))] [] := by
  intro d
  induction d with
  | zero => intro sd he fa li sl be ov h1 h2; omega
  | succ d ih =>
    intro sd he fa li sl be ov h1 h2 h3
    refine Z_iload 2 rfl rfl ?_
    refine Z_iconst 3 rfl ?_
    refine Z_icmp_ge 4 rfl (tgt := 38) rfl (by omega) (by omega) (fun c6 => ?_) (fun c6 => ?_)
    · refine Z_iconst 21 rfl ?_
      refine Z_zret 22 rfl rfl rfl ⟨Nat.le_refl _, Nat.le_refl _⟩ ?_
      exact ⟨bF (fun ⟨k, u, z1, z2⟩ => by
        obtain ⟨s, z3⟩ := (Vis_At h.1).mp z1
        have := At_in h.1 z3
        exact h3 k u s (by omega) z3 z2), _, _, _, _, _, _, rfl⟩
    · refine Z_aload_n 5 rfl rfl rfl ?_
      refine Z_iload_n 6 rfl rfl rfl ?_
      refine Z_iload 7 rfl rfl ?_
      refine Z_callVb (M' := M_M_looks) 8 isM rfl l_M_202 C_M_looks (c_M_looks l p he fa li sl be ov av bl kw sm ma mf mw cj h a sd ha (by omega)) (emM ..) (Or.inl ⟨_, _, _, _, rfl, rfl⟩) rfl rfl rfl (Nat.le_of_ble_eq_true rfl) ⟨rfl, rfl, Nat.le_of_ble_eq_true rfl, Nat.le_of_ble_eq_true rfl⟩ ⟨Nat.zero_le _, Nat.zero_le _⟩ (fun out hq => ?_)
      obtain ⟨he', fa', li', sl', be', ov', rfl, hL⟩ := hq
      refine Z_mem (mgM ..) ?_
      refine Z_ifb_eq 9 rfl (tgt := 32) rfl (fun c16 => ?_) (fun c16 => ?_)
      · refine Z_iinc 19 rfl rfl (Nat.le_of_ble_eq_true rfl) (lv' := [(4, .int _), (0, .ref _), (1, .int _), (2, .int _), (3, .int _)]) rfl ?_
        refine Z_goto 20 rfl (tgt := 3) rfl ?_
        refine Z_pick [0, 1, 2, 3, 4] (lv' := [(0, .ref _), (1, .int _), (2, .int _), (3, .int _), (4, .int _)]) rfl ?_
        refine ih (sd + 1) _ _ _ _ _ _ (by omega) (by omega) (fun k u s z1 z2 => ?_)
        by_cases z : s = sd
        · rw [z] at z2
          first | exact absurd ⟨k, u, z2⟩ c16 | (obtain ⟨y1, y2⟩ := At_un h.1 hA z2; rw [← y1, ← y2]; omega)
        · exact h3 k u s (by omega) z2
      · obtain ⟨kk, uu, hA⟩ := c16
        obtain ⟨e1, e2, e3, e4, e5, e6⟩ := hL kk uu hA
        rw [e1, e2, e3, e4, e5, e6]
        have hI := At_in h.1 hA
        have hb := mp_bd h.1 ⟨hI.1.1, hI.1.2.1⟩ hI.2.1
        obtain ⟨cc, k0, k1, k2, k3, k4⟩ := mp_x h.1 hA
        have q := sc_pos (x := frX p.s st sp (pl p.t kk uu)) k0
        have ec1 := fo_c (S := p.s) st sp k1 k3 k4
        have hc1 := fs_bd h.2.1 hb.1 hb.2.2.1 hb.2.2.2 (st := st) (sp := sp) hst hsp
        refine Z_aload_n 10 rfl rfl rfl ?_
        refine Z_iload_n 11 rfl rfl rfl ?_
        refine Z_iload_n 12 rfl rfl rfl ?_
        refine Z_callVlp (M' := M_M_forceNow) 13 isM rfl l_M_241 C_M_forceNow (c_M_forceNow l p kk uu (mpL p.t kk uu) (mpS p.t kk uu) (mpB p.t kk uu) (mpO p.t kk) av bl kw sm ma mf mw cj h.2.1 st sp (by omega) (by omega)) (emM ..) (Or.inl ⟨_, _, _, _, rfl, rfl⟩) rfl rfl rfl (Nat.le_of_ble_eq_true rfl) ⟨rfl, rfl, Nat.le_of_ble_eq_true rfl, Nat.le_of_ble_eq_true rfl⟩ ⟨Nat.zero_le _, Nat.zero_le _⟩ ?_
        refine Z_cl (show _ = cc * frX p.s st sp (pl p.t kk uu) from ec1) ?_
        have hW : -4900000000000000000 ≤ cc * frX p.s st sp (pl p.t kk uu) ∧ cc * frX p.s st sp (pl p.t kk uu) ≤ 4900000000000000000 := by unfold frX; omega
        refine Z_lconst 14 rfl ?_
        refine Z_lc_gt 15 rfl rfl (tgt := 32) rfl (by omega) (by omega) (fun c26 => ?_) (fun c26 => ?_)
        · refine Z_iinc 19 rfl rfl (Nat.le_of_ble_eq_true rfl) (lv' := [(4, .int _), (0, .ref _), (1, .int _), (2, .int _), (3, .int _)]) rfl ?_
          refine Z_goto 20 rfl (tgt := 3) rfl ?_
          refine Z_pick [0, 1, 2, 3, 4] (lv' := [(0, .ref _), (1, .int _), (2, .int _), (3, .int _), (4, .int _)]) rfl ?_
          refine ih (sd + 1) _ _ _ _ _ _ (by omega) (by omega) (fun k u s z1 z2 => ?_)
          by_cases z : s = sd
          · rw [z] at z2
            first | exact absurd ⟨k, u, z2⟩ c16 | (obtain ⟨y1, y2⟩ := At_un h.1 hA z2; rw [← y1, ← y2]; omega)
          · exact h3 k u s (by omega) z2
        · refine Z_iconst 17 rfl ?_
          refine Z_zret 18 rfl rfl rfl ⟨Nat.le_refl _, Nat.le_refl _⟩ ?_
          exact ⟨bT ⟨kk, uu, (Vis_At h.1).mpr ⟨sd, hA⟩, by omega⟩, _, _, _, _, _, _, rfl⟩
theorem c_M_floatsAt (h : MV p) (a st sp : Int) (ha : inI a) (hst : 0 ≤ st ∧ st ≤ 99) (hsp : 0 ≤ sp ∧ sp ≤ 30) (he fa li sl be ov : Int) : Con l M_M_floatsAt R_M_floatsAt 0 0 false [.ref 0, .int (iI a), .int (iI st), .int (iI sp)] (eM p he fa li sl be ov av bl kw sm ma mf mw cj) (zAb (∃ k u, Vis p.t a k u ∧ frX p.s st sp (pl p.t k u) ≤ 0) (LM p av bl kw sm ma mf mw cj)) := by
  refine Con.of_Z (by decide) D_M_floatsAt (Nat.le_of_ble_eq_true rfl) ?_
  refine Z_iconst 0 rfl ?_
  refine Z_istore 1 rfl (Nat.le_of_ble_eq_true rfl) (lv' := [(4, .int _), (0, .ref _), (1, .int _), (2, .int _), (3, .int _)]) rfl ?_
  refine Z_pick [0, 1, 2, 3, 4] (lv' := [(0, .ref _), (1, .int _), (2, .int _), (3, .int _), (4, .int _)]) rfl ?_
  exact lp_M_floatsAt l p av bl kw sm ma mf mw cj h a st sp ha hst hsp 3 0 _ _ _ _ _ _ (by omega) (by omega) (fun k u s z1 z2 => by have := At_in h.1 z2; omega)
theorem lp_M_floatsBy (h : MV p) (st sp : Int) (hst : 0 ≤ st ∧ st ≤ 99) (hsp : 0 ≤ sp ∧ sp ≤ 30) : ∀ (d : Nat) (a he fa li sl be ov : Int), (0 ≤ a ∧ a ≤ tot p.t + 1) → tot p.t + 1 - a < d → (∀ a' k u, a' < a → Vis p.t a' k u → ¬ frX p.s st sp (pl p.t k u) ≤ 0) → Z (l, M_M_floatsBy, R_M_floatsBy, (0, 0), false, zAb (∃ a k u, Vis p.t a k u ∧ frX p.s st sp (pl p.t k u) ≤ 0) (LM p av bl kw sm ma mf mw cj)) 0 0 (eM p he fa li sl be ov av bl kw sm ma mf mw cj) 2 [(0, .ref 0), (1, .int (iI st)), (2, .int (iI sp)), (3, .int (iI a))] [] := by
  have ht := TV_tot h.1
  intro d
  induction d with
  | zero => intro a he fa li sl be ov h1 h2; omega
  | succ d ih =>
    intro a he fa li sl be ov h1 h2 h3
    refine Z_iload_n 2 rfl rfl rfl ?_
    refine Z_aload_n 3 rfl rfl rfl ?_
    refine Z_callVip (M' := M_M_total) 4 isM rfl l_M_88 C_M_total (c_M_total l p he fa li sl be ov av bl kw sm ma mf mw cj h.1.1) (emM ..) (Or.inl ⟨_, _, _, _, rfl, rfl⟩) rfl rfl rfl (Nat.le_of_ble_eq_true rfl) ⟨rfl, rfl, Nat.le_of_ble_eq_true rfl, Nat.le_of_ble_eq_true rfl⟩ ⟨Nat.zero_le _, Nat.zero_le _⟩ ?_
    refine Z_icmp_gt 5 rfl (tgt := 28) rfl (by omega) (by omega) (fun c7 => ?_) (fun c7 => ?_)
    · refine Z_iconst 16 rfl ?_
      refine Z_zret 17 rfl rfl rfl ⟨Nat.le_refl _, Nat.le_refl _⟩ ?_
      exact ⟨bF (fun ⟨a', k, u, z1, z2⟩ => by
        have := Vis_in h.1 z1
        exact h3 a' k u (by omega) z1 z2), _, _, _, _, _, _, rfl⟩
    · refine Z_aload_n 6 rfl rfl rfl ?_
      refine Z_iload_n 7 rfl rfl rfl ?_
      refine Z_iload_n 8 rfl rfl rfl ?_
      refine Z_iload_n 9 rfl rfl rfl ?_
      refine Z_callVb (M' := M_M_floatsAt) 10 isM rfl l_M_270 C_M_floatsAt (c_M_floatsAt l p av bl kw sm ma mf mw cj h a st sp (by omega) hst hsp he fa li sl be ov) (emM ..) (Or.inl ⟨_, _, _, _, rfl, rfl⟩) rfl rfl rfl (Nat.le_of_ble_eq_true rfl) ⟨rfl, rfl, Nat.le_of_ble_eq_true rfl, Nat.le_of_ble_eq_true rfl⟩ ⟨Nat.zero_le _, Nat.zero_le _⟩ (fun out hq => ?_)
      obtain ⟨he', fa', li', sl', be', ov', rfl⟩ := hq
      refine Z_mem (mgM ..) ?_
      refine Z_ifb_eq 11 rfl (tgt := 22) rfl (fun c17 => ?_) (fun c17 => ?_)
      · refine Z_iinc 14 rfl rfl (Nat.le_of_ble_eq_true rfl) (lv' := [(3, .int _), (0, .ref _), (1, .int _), (2, .int _)]) rfl ?_
        refine Z_goto 15 rfl (tgt := 2) rfl ?_
        refine Z_pick [0, 1, 2, 3] (lv' := [(0, .ref _), (1, .int _), (2, .int _), (3, .int _)]) rfl ?_
        refine ih (a + 1) _ _ _ _ _ _ (by omega) (by omega) (fun a' k u z1 z2 z3 => ?_)
        by_cases z : a' = a
        · rw [z] at z2
          exact c17 ⟨k, u, z2, z3⟩
        · exact h3 a' k u (by omega) z2 z3
      · refine Z_iconst 12 rfl ?_
        refine Z_zret 13 rfl rfl rfl ⟨Nat.le_refl _, Nat.le_refl _⟩ ?_
        exact ⟨bT ⟨a, c17⟩, _, _, _, _, _, _, rfl⟩
theorem c_M_floatsBy (h : MV p) (st sp : Int) (hst : 0 ≤ st ∧ st ≤ 99) (hsp : 0 ≤ sp ∧ sp ≤ 30) (he fa li sl be ov : Int) : Con l M_M_floatsBy R_M_floatsBy 0 0 false [.ref 0, .int (iI st), .int (iI sp)] (eM p he fa li sl be ov av bl kw sm ma mf mw cj) (zAb (∃ a k u, Vis p.t a k u ∧ frX p.s st sp (pl p.t k u) ≤ 0) (LM p av bl kw sm ma mf mw cj)) := by
  have ht := TV_tot h.1
  refine Con.of_Z (by decide) D_M_floatsBy (Nat.le_of_ble_eq_true rfl) ?_
  refine Z_iconst 0 rfl ?_
  refine Z_istore_n 1 rfl rfl (Nat.le_of_ble_eq_true rfl) (lv' := [(3, .int _), (0, .ref _), (1, .int _), (2, .int _)]) rfl ?_
  refine Z_pick [0, 1, 2, 3] (lv' := [(0, .ref _), (1, .int _), (2, .int _), (3, .int _)]) rfl ?_
  exact lp_M_floatsBy l p av bl kw sm ma mf mw cj h st sp hst hsp 362 0 _ _ _ _ _ _ (by omega) (by omega) (fun a' k u z1 z2 => by have := Vis_in h.1 z2; omega)
theorem lp_M_floating (h : MV p) : ∀ (d : Nat) (a he fa li sl be ov : Int), (0 ≤ a ∧ a ≤ tot p.t + 1) → tot p.t + 1 - a < d → (∀ a', a' < a → ¬ floP p.t p.s a') → Z (l, M_M_floating, R_M_floating, (0, 0), false, zAi (lstA (floP p.t p.s)) (LM p av bl kw sm ma mf mw cj)) 0 0 (eM p he fa li sl be ov av bl kw sm ma mf mw cj) 2 [(0, .ref 0), (1, .int (iI a))] [] := by
  have ht := TV_tot h.1
  have hS := h.2.1
  unfold SB at hS
  intro d
  induction d with
  | zero => intro a he fa li sl be ov h1 h2; omega
  | succ d ih =>
    intro a he fa li sl be ov h1 h2 h3
    have ef : (∃ k u, Vis p.t a k u ∧ frX p.s (p.s 2) (p.s 4) (pl p.t k u) ≤ 0) ↔ floP p.t p.s a := by
      unfold floP
      constructor
      · rintro ⟨k, u, z1, z2⟩
        rw [frX_f] at z2
        exact ⟨k, u, z1, z2⟩
      · rintro ⟨k, u, z1, z2⟩
        rw [← frX_f] at z2
        exact ⟨k, u, z1, z2⟩
    refine Z_iload_n 2 rfl rfl rfl ?_
    refine Z_aload_n 3 rfl rfl rfl ?_
    refine Z_callVip (M' := M_M_total) 4 isM rfl l_M_88 C_M_total (c_M_total l p he fa li sl be ov av bl kw sm ma mf mw cj h.1.1) (emM ..) (Or.inl ⟨_, _, _, _, rfl, rfl⟩) rfl rfl rfl (Nat.le_of_ble_eq_true rfl) ⟨rfl, rfl, Nat.le_of_ble_eq_true rfl, Nat.le_of_ble_eq_true rfl⟩ ⟨Nat.zero_le _, Nat.zero_le _⟩ ?_
    refine Z_icmp_gt 5 rfl (tgt := 38) rfl (by omega) (by omega) (fun c7 => ?_) (fun c7 => ?_)
    · refine Z_bipush 22 rfl rfl ?_
      refine Z_iret 23 rfl rfl ⟨Nat.le_refl _, Nat.le_refl _⟩ ?_
      exact ⟨by rw [lstA_eq (v := -5) (Or.inr ⟨rfl, fun x hx => by
        have hx' := hx
        obtain ⟨k, u, z1, z2⟩ := hx
        have := Vis_in h.1 z1
        exact h3 x (by omega) hx'⟩)], _, _, _, _, _, _, rfl⟩
    · refine Z_aload_n 6 rfl rfl rfl ?_
      refine Z_iload_n 7 rfl rfl rfl ?_
      refine Z_aload_n 8 rfl rfl rfl ?_
      refine Z_get 9 rfl f_M_21 rfl rfl ?_
      refine Z_iconst 10 rfl ?_
      refine Z_ia 11 rfl rfl (by omega) (by decide) ?_
      refine Z_aload_n 12 rfl rfl rfl ?_
      refine Z_get 13 rfl f_M_21 rfl rfl ?_
      refine Z_iconst 14 rfl ?_
      refine Z_ia 15 rfl rfl (by omega) (by decide) ?_
      refine Z_callVb (M' := M_M_floatsAt) 16 isM rfl l_M_270 C_M_floatsAt (c_M_floatsAt l p av bl kw sm ma mf mw cj h a (p.s 2) (p.s 4) (by omega) (by omega) (by omega) he fa li sl be ov) (emM ..) (Or.inl ⟨_, _, _, _, rfl, rfl⟩) rfl rfl rfl (Nat.le_of_ble_eq_true rfl) ⟨rfl, rfl, Nat.le_of_ble_eq_true rfl, Nat.le_of_ble_eq_true rfl⟩ ⟨Nat.zero_le _, Nat.zero_le _⟩ (fun out hq => ?_)
      obtain ⟨he', fa', li', sl', be', ov', rfl⟩ := hq
      refine Z_mem (mgM ..) ?_
      refine Z_ifb_eq 17 rfl (tgt := 32) rfl (fun c27 => ?_) (fun c27 => ?_)
      · refine Z_iinc 20 rfl rfl (Nat.le_of_ble_eq_true rfl) (lv' := [(1, .int _), (0, .ref _)]) rfl ?_
        refine Z_goto 21 rfl (tgt := 2) rfl ?_
        refine Z_pick [0, 1] (lv' := [(0, .ref _), (1, .int _)]) rfl ?_
        refine ih (a + 1) _ _ _ _ _ _ (by omega) (by omega) (fun a' z1 z2 => ?_)
        by_cases z : a' = a
        · rw [z] at z2
          exact c27 (ef.mpr z2)
        · exact h3 a' (by omega) z2
      · refine Z_iload_n 18 rfl rfl rfl ?_
        refine Z_iret 19 rfl rfl ⟨Nat.le_refl _, Nat.le_refl _⟩ ?_
        exact ⟨by rw [lstA_eq (v := a) (Or.inl ⟨ef.mp c27, fun x hx => by
          rcases Int.lt_or_le x a with y | y
          · exact absurd hx (h3 x y)
          · exact y⟩)], _, _, _, _, _, _, rfl⟩
theorem c_M_floating (h : MV p) (he fa li sl be ov : Int) : Con l M_M_floating R_M_floating 0 0 false [.ref 0] (eM p he fa li sl be ov av bl kw sm ma mf mw cj) (zAi (lstA (floP p.t p.s)) (LM p av bl kw sm ma mf mw cj)) := by
  have ht := TV_tot h.1
  refine Con.of_Z (by decide) D_M_floating (Nat.le_of_ble_eq_true rfl) ?_
  refine Z_iconst 0 rfl ?_
  refine Z_istore_n 1 rfl rfl (Nat.le_of_ble_eq_true rfl) (lv' := [(1, .int _), (0, .ref _)]) rfl ?_
  refine Z_pick [0, 1] (lv' := [(0, .ref _), (1, .int _)]) rfl ?_
  exact lp_M_floating l p av bl kw sm ma mf mw cj h 362 0 _ _ _ _ _ _ (by omega) (by omega) (fun a' z1 ⟨k, u, z2, _⟩ => by have := Vis_in h.1 z2; omega)
theorem lp_M_leastStiff (h : MV p) : ∀ (d : Nat) (x he fa li sl be ov : Int), (0 ≤ x ∧ x ≤ 100) → 100 - x < d → (∀ y, y < x → ¬ stiP p.t p.s y) → Z (l, M_M_leastStiff, R_M_leastStiff, (0, 0), false, zAi (lstA (stiP p.t p.s)) (LM p av bl kw sm ma mf mw cj)) 0 0 (eM p he fa li sl be ov av bl kw sm ma mf mw cj) 2 [(0, .ref 0), (1, .int (iI x))] [] := by
  have hS := h.2.1
  unfold SB at hS
  intro d
  induction d with
  | zero => intro x he fa li sl be ov h1 h2; omega
  | succ d ih =>
    intro x he fa li sl be ov h1 h2 h3
    have ef : x ≤ 99 → (stiP p.t p.s x ↔ ¬ ∃ a k u, Vis p.t a k u ∧ frX p.s x (p.s 4) (pl p.t k u) ≤ 0) := by
      intro hx
      unfold stiP
      constructor
      · rintro ⟨-, -, z⟩ ⟨a, k, u, z1, z2⟩
        rw [frX_st] at z2
        have := z a k u z1
        omega
      · intro z
        refine ⟨h1.1, hx, fun a k u z1 => ?_⟩
        rw [← frX_st]
        rcases Int.lt_or_le 0 (frX p.s x (p.s 4) (pl p.t k u)) with y | y
        · exact y
        · exact absurd ⟨a, k, u, z1, y⟩ z
    refine Z_iload_n 2 rfl rfl rfl ?_
    refine Z_bipush 3 rfl rfl ?_
    refine Z_icmp_gt 4 rfl (tgt := 30) rfl (by omega) (by omega) (fun c5 => ?_) (fun c5 => ?_)
    · refine Z_bipush 17 rfl rfl ?_
      refine Z_iret 18 rfl rfl ⟨Nat.le_refl _, Nat.le_refl _⟩ ?_
      exact ⟨by rw [lstA_eq (v := -5) (Or.inr ⟨rfl, fun y hy => h3 y (by have := hy.2.1; omega) hy⟩)], _, _, _, _, _, _, rfl⟩
    · refine Z_aload_n 5 rfl rfl rfl ?_
      refine Z_iload_n 6 rfl rfl rfl ?_
      refine Z_aload_n 7 rfl rfl rfl ?_
      refine Z_get 8 rfl f_M_21 rfl rfl ?_
      refine Z_iconst 9 rfl ?_
      refine Z_ia 10 rfl rfl (by omega) (by decide) ?_
      refine Z_callVb (M' := M_M_floatsBy) 11 isM rfl l_M_274 C_M_floatsBy (c_M_floatsBy l p av bl kw sm ma mf mw cj h x (p.s 4) (by omega) (by omega) he fa li sl be ov) (emM ..) (Or.inl ⟨_, _, _, _, rfl, rfl⟩) rfl rfl rfl (Nat.le_of_ble_eq_true rfl) ⟨rfl, rfl, Nat.le_of_ble_eq_true rfl, Nat.le_of_ble_eq_true rfl⟩ ⟨Nat.zero_le _, Nat.zero_le _⟩ (fun out hq => ?_)
      obtain ⟨he', fa', li', sl', be', ov', rfl⟩ := hq
      refine Z_mem (mgM ..) ?_
      refine Z_ifb_ne 12 rfl (tgt := 24) rfl (fun c19 => ?_) (fun c19 => ?_)
      · refine Z_iinc 15 rfl rfl (Nat.le_of_ble_eq_true rfl) (lv' := [(1, .int _), (0, .ref _)]) rfl ?_
        refine Z_goto 16 rfl (tgt := 2) rfl ?_
        refine Z_pick [0, 1] (lv' := [(0, .ref _), (1, .int _)]) rfl ?_
        refine ih (x + 1) _ _ _ _ _ _ (by omega) (by omega) (fun y z1 z2 => ?_)
        by_cases z : y = x
        · rw [z] at z2
          exact (ef (by omega)).mp z2 c19
        · exact h3 y (by omega) z2
      · refine Z_iload_n 13 rfl rfl rfl ?_
        refine Z_iret 14 rfl rfl ⟨Nat.le_refl _, Nat.le_refl _⟩ ?_
        exact ⟨by rw [lstA_eq (v := x) (Or.inl ⟨(ef (by omega)).mpr c19, fun y hy => by
          rcases Int.lt_or_le y x with z | z
          · exact absurd hy (h3 y z)
          · exact z⟩)], _, _, _, _, _, _, rfl⟩
theorem c_M_leastStiff (h : MV p) (he fa li sl be ov : Int) : Con l M_M_leastStiff R_M_leastStiff 0 0 false [.ref 0] (eM p he fa li sl be ov av bl kw sm ma mf mw cj) (zAi (lstA (stiP p.t p.s)) (LM p av bl kw sm ma mf mw cj)) := by
  refine Con.of_Z (by decide) D_M_leastStiff (Nat.le_of_ble_eq_true rfl) ?_
  refine Z_iconst 0 rfl ?_
  refine Z_istore_n 1 rfl rfl (Nat.le_of_ble_eq_true rfl) (lv' := [(1, .int _), (0, .ref _)]) rfl ?_
  refine Z_pick [0, 1] (lv' := [(0, .ref _), (1, .int _)]) rfl ?_
  exact lp_M_leastStiff l p av bl kw sm ma mf mw cj h 101 0 _ _ _ _ _ _ (by omega) (by omega) (fun y z1 z2 => by have := z2.1; omega)
theorem lp_M_fastest (h : MV p) : ∀ (d : Nat) (x he fa li sl be ov : Int), (-1 ≤ x ∧ x ≤ 30) → x + 1 < d → (∀ y, x < y → ¬ fasP p.t p.s y) → Z (l, M_M_fastest, R_M_fastest, (0, 0), false, zAi (gstA (fasP p.t p.s)) (LM p av bl kw sm ma mf mw cj)) 0 0 (eM p he fa li sl be ov av bl kw sm ma mf mw cj) 3 [(0, .ref 0), (1, .int (iI x))] [] := by
  have hS := h.2.1
  unfold SB at hS
  intro d
  induction d with
  | zero => intro x he fa li sl be ov h1 h2; omega
  | succ d ih =>
    intro x he fa li sl be ov h1 h2 h3
    have ef : 0 ≤ x → (fasP p.t p.s x ↔ ¬ ∃ a k u, Vis p.t a k u ∧ frX p.s (p.s 2) x (pl p.t k u) ≤ 0) := by
      intro hx
      unfold fasP
      constructor
      · rintro ⟨-, -, z⟩ ⟨a, k, u, z1, z2⟩
        rw [frX_sp] at z2
        have := z a k u z1
        omega
      · intro z
        refine ⟨hx, h1.2, fun a k u z1 => ?_⟩
        rw [← frX_sp]
        rcases Int.lt_or_le 0 (frX p.s (p.s 2) x (pl p.t k u)) with y | y
        · exact y
        · exact absurd ⟨a, k, u, z1, y⟩ z
    refine Z_iload_n 2 rfl rfl rfl ?_
    refine Z_if_lt 3 rfl (tgt := 29) rfl (by omega) (fun c4 => ?_) (fun c4 => ?_)
    · refine Z_bipush 16 rfl rfl ?_
      refine Z_iret 17 rfl rfl ⟨Nat.le_refl _, Nat.le_refl _⟩ ?_
      exact ⟨by rw [gstA_eq (v := -5) (Or.inr ⟨rfl, fun y hy => h3 y (by have := hy.1; omega) hy⟩)], _, _, _, _, _, _, rfl⟩
    · refine Z_aload_n 4 rfl rfl rfl ?_
      refine Z_aload_n 5 rfl rfl rfl ?_
      refine Z_get 6 rfl f_M_21 rfl rfl ?_
      refine Z_iconst 7 rfl ?_
      refine Z_ia 8 rfl rfl (by omega) (by decide) ?_
      refine Z_iload_n 9 rfl rfl rfl ?_
      refine Z_callVb (M' := M_M_floatsBy) 10 isM rfl l_M_274 C_M_floatsBy (c_M_floatsBy l p av bl kw sm ma mf mw cj h (p.s 2) x (by omega) (by omega) he fa li sl be ov) (emM ..) (Or.inl ⟨_, _, _, _, rfl, rfl⟩) rfl rfl rfl (Nat.le_of_ble_eq_true rfl) ⟨rfl, rfl, Nat.le_of_ble_eq_true rfl, Nat.le_of_ble_eq_true rfl⟩ ⟨Nat.zero_le _, Nat.zero_le _⟩ (fun out hq => ?_)
      obtain ⟨he', fa', li', sl', be', ov', rfl⟩ := hq
      refine Z_mem (mgM ..) ?_
      refine Z_ifb_ne 11 rfl (tgt := 23) rfl (fun c18 => ?_) (fun c18 => ?_)
      · refine Z_iinc 14 rfl rfl (Nat.le_of_ble_eq_true rfl) (lv' := [(1, .int _), (0, .ref _)]) rfl ?_
        refine Z_goto 15 rfl (tgt := 3) rfl ?_
        refine Z_pick [0, 1] (lv' := [(0, .ref _), (1, .int _)]) rfl ?_
        refine ih (x + -1) _ _ _ _ _ _ (by omega) (by omega) (fun y z1 z2 => ?_)
        by_cases z : y = x
        · rw [z] at z2
          exact (ef (by omega)).mp z2 c18
        · exact h3 y (by omega) z2
      · refine Z_iload_n 12 rfl rfl rfl ?_
        refine Z_iret 13 rfl rfl ⟨Nat.le_refl _, Nat.le_refl _⟩ ?_
        exact ⟨by rw [gstA_eq (v := x) (Or.inl ⟨(ef (by omega)).mpr c18, fun y hy => by
          rcases Int.lt_or_le x y with z | z
          · exact absurd hy (h3 y z)
          · exact z⟩)], _, _, _, _, _, _, rfl⟩
theorem c_M_fastest (h : MV p) (he fa li sl be ov : Int) : Con l M_M_fastest R_M_fastest 0 0 false [.ref 0] (eM p he fa li sl be ov av bl kw sm ma mf mw cj) (zAi (gstA (fasP p.t p.s)) (LM p av bl kw sm ma mf mw cj)) := by
  refine Con.of_Z (by decide) D_M_fastest (Nat.le_of_ble_eq_true rfl) ?_
  refine Z_bipush 0 rfl rfl ?_
  refine Z_istore_n 1 rfl rfl (Nat.le_of_ble_eq_true rfl) (lv' := [(1, .int _), (0, .ref _)]) rfl ?_
  refine Z_pick [0, 1] (lv' := [(0, .ref _), (1, .int _)]) rfl ?_
  exact lp_M_fastest l p av bl kw sm ma mf mw cj h 32 30 _ _ _ _ _ _ (by omega) (by omega) (fun y z1 z2 => by have := z2.2.1; omega)
end M5
