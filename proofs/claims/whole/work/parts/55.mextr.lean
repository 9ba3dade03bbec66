/-! the model: the steepest, the gentle, the extremes -/
theorem ab_c {c x : Int} (hc : 1 ≤ c) : ab (c * x) = c * ab x := by
  unfold ab
  by_cases h : 0 ≤ x
  · have := Int.mul_nonneg (show 0 ≤ c by omega) h
    rw [if_pos h, if_pos (by omega)]
  · have := Int.mul_le_mul_of_nonneg_left (show x ≤ -1 by omega) (show 0 ≤ c by omega)
    rw [if_neg h, if_neg (by omega)]
    grind
theorem sc_lt {c x y : Int} (hc : 1 ≤ c) : c * x < c * y ↔ x < y :=
  ⟨fun z => Int.lt_of_mul_lt_mul_left z (by omega), fun z => Int.mul_lt_mul_of_pos_left z (by omega)⟩
theorem st_sc {c d A B x y : Int} (hc : 1 ≤ c) (hd : 1 ≤ d) : 57 * (c * A) * (d * y) < 57 * (d * x) * (c * B) ↔ A * y < x * B := by
  rw [show 57 * (c * A) * (d * y) = c * (d * (57 * (A * y))) by grind, show 57 * (d * x) * (c * B) = c * (d * (57 * (x * B))) by grind, sc_lt hc, sc_lt hd, sc_lt (show (1 : Int) ≤ 57 by omega)]
section M6
variable (l : Launch) (p : MP) (av bl : Int) (kw sm : Int → Int) (ma mf mw : Int) (cj : TT)
def stJ (t : TT) (S : Int → Int) (D : Int → Int → Int → Prop) (best x y : Int) : Prop := (best = -5 ∧ ∀ a k u, D a k u → ¬ 0 < rch S (pl t k u)) ∨ (0 ≤ best ∧ best ≤ 360 ∧ ∃ A B c, 1 ≤ c ∧ x = 57 * (c * A) ∧ y = c * B ∧ (0 ≤ x ∧ inL x) ∧ (0 < y ∧ inL y) ∧ stW t S D best A B)
theorem stJ_c {t : TT} {S : Int → Int} {D D' : Int → Int → Int → Prop} {best x y : Int} (h : ∀ a k u, D' a k u ↔ D a k u) (z : stJ t S D best x y) : stJ t S D' best x y := by
  have e : D' = D := funext fun a => funext fun k => funext fun u => propext (h a k u)
  rw [e]
  exact z
theorem lp_M_steepest (h : MV p) : ∀ (d : Nat) (a sd best x y he fa li sl be ov : Int), (0 ≤ a ∧ a ≤ tot p.t) → (0 ≤ sd ∧ sd ≤ 2) → stJ p.t p.s (DM p.t a sd) best x y → 3 * (tot p.t - a) + (2 - sd) < d → Z (l, M_M_steepest, R_M_steepest, (0, 0), false, zAi (stA p.t p.s) (LM p av bl kw sm ma mf mw cj)) 0 0 (eM p he fa li sl be ov av bl kw sm ma mf mw cj) 23 [(0, .ref 0), (1, .int (iI best)), (2, .long (lI x)), (4, .long (lI y)), (6, .int (iI a)), (7, .int (iI sd))] [] := by
  have ht := TV_tot h.1
  have hS := h.2.1
  unfold SB at hS
  intro d
  induction d with
  | zero => intro a sd best x y he fa li sl be ov h1 h2 h3 h5; omega
  | succ d ih =>
    intro a sd best x y he fa li sl be ov h1 h2 h3 h5
    have hbx : inI best ∧ (best = -5 ∨ ((0 ≤ x ∧ inL x) ∧ (0 < y ∧ inL y))) := by
      rcases h3 with ⟨z1, -⟩ | ⟨z1, z2, A, B, c, z3, z4, z5, z6, z7, z8⟩
      · omega
      · exact ⟨by omega, Or.inr ⟨z6, z7⟩⟩
    refine Z_iload 14 rfl rfl ?_
    refine Z_iconst 15 rfl ?_
    refine Z_icmp_ge 16 rfl (tgt := 120) rfl (by omega) (by omega) (fun c26 => ?_) (fun c26 => ?_)
    · refine Z_iinc 63 rfl rfl (Nat.le_of_ble_eq_true rfl) (lv' := [(6, .int _), (0, .ref _), (1, .int _), (2, .long _), (4, .long _), (7, .int _)]) rfl ?_
      refine Z_goto 64 rfl (tgt := 11) rfl ?_
      refine Z_iload 8 rfl rfl ?_
      refine Z_aload_n 9 rfl rfl rfl ?_
      refine Z_callVip (M' := M_M_total) 10 isM rfl l_M_88 C_M_total (c_M_total l p he fa li sl be ov av bl kw sm ma mf mw cj h.1.1) (emM ..) (Or.inl ⟨_, _, _, _, rfl, rfl⟩) rfl rfl rfl (Nat.le_of_ble_eq_true rfl) ⟨rfl, rfl, Nat.le_of_ble_eq_true rfl, Nat.le_of_ble_eq_true rfl⟩ ⟨Nat.zero_le _, Nat.zero_le _⟩ ?_
      refine Z_icmp_gt 11 rfl (tgt := 126) rfl (by omega) (by omega) (fun c17 => ?_) (fun c17 => ?_)
      · refine Z_iload_n 65 rfl rfl rfl ?_
        refine Z_iret 66 rfl rfl ⟨Nat.le_refl _, Nat.le_refl _⟩ ?_
        exact ⟨by
          rw [stA_eq (v := best) ?_]
          have h9 := stJ_c (fun a' k u => (DM_e h.1 (show tot p.t < a + 1 by omega) a' k u).symm.trans (DM_s h.1 (by omega) a' k u)) h3
          rcases h9 with z | ⟨z1, z2, A, B, c, z3, z4, z5, z6, z7, z8⟩
          · exact Or.inl z
          · exact Or.inr ⟨A, B, z8⟩, _, _, _, _, _, _, rfl⟩
      · refine Z_iconst 12 rfl ?_
        refine Z_istore 13 rfl (Nat.le_of_ble_eq_true rfl) (lv' := [(7, .int _), (6, .int _), (0, .ref _), (1, .int _), (2, .long _), (4, .long _)]) rfl ?_
        refine Z_pick [0, 1, 2, 4, 6, 7] (lv' := [(0, .ref _), (1, .int _), (2, .long _), (4, .long _), (6, .int _), (7, .int _)]) rfl ?_
        first
          | exact ih (a + 1) 0 best x y _ _ _ _ _ _ (by omega) (by omega) (stJ_c (DM_s h.1 (by omega)) h3) (by omega)
          | exact ih a (sd + 1) best x y _ _ _ _ _ _ h1 (by omega) (stJ_c (DM_f c37) h3) (by omega)
          | (have c75' : ¬ 0 < rch p.s (pl p.t kk uu) := by omega
             exact ih a (sd + 1) best x y _ _ _ _ _ _ h1 (by omega) (by
               have hD := DM_t h.1 hA
               rcases h3 with ⟨e, z1⟩ | ⟨b1, b2, A, B, c, b3, b4, b5, b6, b7, k2, u2, z1, z2, z3, z4, z5⟩
               · refine Or.inl ⟨e, fun a' k u z => ?_⟩
                 rcases (hD _ _ _).mp z with y | ⟨-, y2, y3⟩
                 · exact z1 _ _ _ y
                 · rw [y2, y3]; exact c75'
               · refine Or.inr ⟨b1, b2, A, B, c, b3, b4, b5, b6, b7, k2, u2, (hD _ _ _).mpr (Or.inl z1), z2, z3, z4, fun a' k' u' hd2 hr => ?_⟩
                 rcases (hD _ _ _).mp hd2 with y | ⟨-, y2, y3⟩
                 · exact z5 _ _ _ y hr
                 · rw [y2, y3] at hr
                   exact absurd hr c75') (by omega))
          | (have c98' : ¬ x * (cc * rch p.s (pl p.t kk uu)) < 57 * (cc * ab (pl p.t kk uu).2.2.1) * y := c98
             exact ih a (sd + 1) best x y _ _ _ _ _ _ h1 (by omega) (by
               have hD := DM_t h.1 hA
               rcases h3 with ⟨e, z1⟩ | ⟨b1, b2, A, B, c, b3, b4, b5, b6, b7, k2, u2, z1, z2, z3, z4, z5⟩
               · omega
               · rw [b4, b5, st_sc b3 k0] at c98'
                 refine Or.inr ⟨b1, b2, A, B, c, b3, b4, b5, b6, b7, k2, u2, (hD _ _ _).mpr (Or.inl z1), z2, z3, z4, fun a' k' u' hd2 hr => ?_⟩
                 rcases (hD _ _ _).mp hd2 with y | ⟨y1, y2, y3⟩
                 · exact z5 _ _ _ y hr
                 · rw [y1, y2, y3]
                   have := DM_le z1
                   omega) (by omega))
          | exact ih a (sd + 1) a _ _ _ _ _ _ _ _ h1 (by omega) (by
               have hD := DM_t h.1 hA
               refine Or.inr ⟨by omega, by omega, ab (pl p.t kk uu).2.2.1, rch p.s (pl p.t kk uu), cc, k0, rfl, rfl, by omega, by omega, kk, uu, (hD _ _ _).mpr (Or.inr ⟨rfl, rfl, rfl⟩), rfl, rfl, by omega, fun a' k' u' hd2 hr => ?_⟩
               rcases (hD _ _ _).mp hd2 with yy | ⟨e1, e2, e3⟩
               · rcases h3 with ⟨e, z1⟩ | ⟨b1, b2, A, B, c, b3, b4, b5, b6, b7, k2, u2, z1, z2, z3, z4, z5⟩
                 · exact absurd hr (z1 _ _ _ yy)
                 · first
                     | (exfalso; omega)
                     | (have c98' : x * (cc * rch p.s (pl p.t kk uu)) < 57 * (cc * ab (pl p.t kk uu).2.2.1) * y := c98
                        rw [b4, b5, st_sc b3 k0] at c98'
                        have y2 := z5 _ _ _ yy hr
                        exact Or.inl (fr1 z4 (by omega) hr (by omega) c98'))
               · rw [e1, e2, e3]
                 exact Or.inr ⟨rfl, Int.le_refl _⟩) (by omega)
    · refine Z_aload_n 17 rfl rfl rfl ?_
      refine Z_iload 18 rfl rfl ?_
      refine Z_iload 19 rfl rfl ?_
      refine Z_callVb (M' := M_M_looks) 20 isM rfl l_M_202 C_M_looks (c_M_looks l p he fa li sl be ov av bl kw sm ma mf mw cj h a sd (by omega) (by omega)) (emM ..) (Or.inl ⟨_, _, _, _, rfl, rfl⟩) rfl rfl rfl (Nat.le_of_ble_eq_true rfl) ⟨rfl, rfl, Nat.le_of_ble_eq_true rfl, Nat.le_of_ble_eq_true rfl⟩ ⟨Nat.zero_le _, Nat.zero_le _⟩ (fun out hq => ?_)
      obtain ⟨he', fa', li', sl', be', ov', rfl, hL⟩ := hq
      refine Z_mem (mgM ..) ?_
      refine Z_ifb_ne 21 rfl (tgt := 43) rfl (fun c37 => ?_) (fun c37 => ?_)
      · obtain ⟨kk, uu, hA⟩ := c37
        obtain ⟨e1, e2, e3, e4, e5, e6⟩ := hL kk uu hA
        rw [e1, e2, e3, e4, e5, e6]
        have hI := At_in h.1 hA
        have hb := mp_bd h.1 ⟨hI.1.1, hI.1.2.1⟩ hI.2.1
        obtain ⟨cc, k0, k1, k2, k3, k4⟩ := mp_x h.1 hA
        have hb1 := (pl_bd h.1 ⟨hI.1.1, hI.1.2.1⟩ hI.2.1).1
        have hc := (cs_bd h.2.1 (c := 0) hb.1 hb.2.2.1 hb.2.2.2).2
        have er := (cu_c (S := p.s) k1 k3 k4).2
        have q := sc_pos (x := rch p.s (pl p.t kk uu)) k0
        have hab := ab_bd (x := mpS p.t kk uu) (A := 49884595200000) hb.2.1
        have eab : ab (mpS p.t kk uu) = cc * ab (pl p.t kk uu).2.2.1 := by rw [k2, ab_c k0]
        refine Z_aload_n 23 rfl rfl rfl ?_
        refine Z_get 24 rfl f_M_21 rfl rfl ?_
        refine Z_iconst 25 rfl ?_
        refine Z_ia 26 rfl rfl (by omega) (by decide) ?_
        refine Z_i2l 27 rfl (by omega) ?_
        refine Z_aload_n 28 rfl rfl rfl ?_
        refine Z_get 29 rfl f_M_179 rfl rfl ?_
        refine Z_lmul 30 rfl ?_
        refine Z_aload_n 31 rfl rfl rfl ?_
        refine Z_get 32 rfl f_M_187 rfl rfl ?_
        refine Z_ladd 33 rfl ?_
        refine Z_cl (show _ = cc * rch p.s (pl p.t kk uu) from er) ?_
        refine Z_lstore 34 rfl (Nat.le_of_ble_eq_true rfl) (lv' := [(8, .long _), (0, .ref _), (1, .int _), (2, .long _), (4, .long _), (6, .int _), (7, .int _)]) rfl ?_
        refine Z_ldc2 35 rfl k_M_239 (c := 57) rfl ?_
        refine Z_aload_n 36 rfl rfl rfl ?_
        refine Z_get 37 rfl f_M_193 rfl rfl ?_
        refine Z_absL 38 rfl l_M_137 b_st_absL b_ini_Math b_cd_absL (by omega) (Nat.le_of_ble_eq_true rfl) ⟨Nat.le_of_ble_eq_true rfl, Nat.zero_le _, Nat.zero_le _⟩ ?_
        refine Z_cl (show _ = ab (mpS p.t kk uu) from rfl) ?_
        refine Z_lmul 39 rfl ?_
        refine Z_cl (show _ = 57 * (cc * ab (pl p.t kk uu).2.2.1) by rw [eab]) ?_
        refine Z_lstore 40 rfl (Nat.le_of_ble_eq_true rfl) (lv' := [(10, .long _), (8, .long _), (0, .ref _), (1, .int _), (2, .long _), (4, .long _), (6, .int _), (7, .int _)]) rfl ?_
        refine Z_lload 41 rfl rfl ?_
        refine Z_lconst 42 rfl ?_
        refine Z_lc_le 43 rfl rfl (tgt := 114) rfl (by omega) (by omega) (fun c78 => ?_) (fun c78 => ?_)
        · refine Z_iinc 61 rfl rfl (Nat.le_of_ble_eq_true rfl) (lv' := [(7, .int _), (10, .long _), (8, .long _), (0, .ref _), (1, .int _), (2, .long _), (4, .long _), (6, .int _)]) rfl ?_
          refine Z_goto 62 rfl (tgt := 23) rfl ?_
          refine Z_pick [0, 1, 2, 4, 6, 7] (lv' := [(0, .ref _), (1, .int _), (2, .long _), (4, .long _), (6, .int _), (7, .int _)]) rfl ?_
          first
            | exact ih (a + 1) 0 best x y _ _ _ _ _ _ (by omega) (by omega) (stJ_c (DM_s h.1 (by omega)) h3) (by omega)
            | exact ih a (sd + 1) best x y _ _ _ _ _ _ h1 (by omega) (stJ_c (DM_f c37) h3) (by omega)
            | (have c75' : ¬ 0 < rch p.s (pl p.t kk uu) := by omega
               exact ih a (sd + 1) best x y _ _ _ _ _ _ h1 (by omega) (by
                 have hD := DM_t h.1 hA
                 rcases h3 with ⟨e, z1⟩ | ⟨b1, b2, A, B, c, b3, b4, b5, b6, b7, k2, u2, z1, z2, z3, z4, z5⟩
                 · refine Or.inl ⟨e, fun a' k u z => ?_⟩
                   rcases (hD _ _ _).mp z with y | ⟨-, y2, y3⟩
                   · exact z1 _ _ _ y
                   · rw [y2, y3]; exact c75'
                 · refine Or.inr ⟨b1, b2, A, B, c, b3, b4, b5, b6, b7, k2, u2, (hD _ _ _).mpr (Or.inl z1), z2, z3, z4, fun a' k' u' hd2 hr => ?_⟩
                   rcases (hD _ _ _).mp hd2 with y | ⟨-, y2, y3⟩
                   · exact z5 _ _ _ y hr
                   · rw [y2, y3] at hr
                     exact absurd hr c75') (by omega))
            | (have c98' : ¬ x * (cc * rch p.s (pl p.t kk uu)) < 57 * (cc * ab (pl p.t kk uu).2.2.1) * y := c98
               exact ih a (sd + 1) best x y _ _ _ _ _ _ h1 (by omega) (by
                 have hD := DM_t h.1 hA
                 rcases h3 with ⟨e, z1⟩ | ⟨b1, b2, A, B, c, b3, b4, b5, b6, b7, k2, u2, z1, z2, z3, z4, z5⟩
                 · omega
                 · rw [b4, b5, st_sc b3 k0] at c98'
                   refine Or.inr ⟨b1, b2, A, B, c, b3, b4, b5, b6, b7, k2, u2, (hD _ _ _).mpr (Or.inl z1), z2, z3, z4, fun a' k' u' hd2 hr => ?_⟩
                   rcases (hD _ _ _).mp hd2 with y | ⟨y1, y2, y3⟩
                   · exact z5 _ _ _ y hr
                   · rw [y1, y2, y3]
                     have := DM_le z1
                     omega) (by omega))
            | exact ih a (sd + 1) a _ _ _ _ _ _ _ _ h1 (by omega) (by
                 have hD := DM_t h.1 hA
                 refine Or.inr ⟨by omega, by omega, ab (pl p.t kk uu).2.2.1, rch p.s (pl p.t kk uu), cc, k0, rfl, rfl, by omega, by omega, kk, uu, (hD _ _ _).mpr (Or.inr ⟨rfl, rfl, rfl⟩), rfl, rfl, by omega, fun a' k' u' hd2 hr => ?_⟩
                 rcases (hD _ _ _).mp hd2 with yy | ⟨e1, e2, e3⟩
                 · rcases h3 with ⟨e, z1⟩ | ⟨b1, b2, A, B, c, b3, b4, b5, b6, b7, k2, u2, z1, z2, z3, z4, z5⟩
                   · exact absurd hr (z1 _ _ _ yy)
                   · first
                       | (exfalso; omega)
                       | (have c98' : x * (cc * rch p.s (pl p.t kk uu)) < 57 * (cc * ab (pl p.t kk uu).2.2.1) * y := c98
                          rw [b4, b5, st_sc b3 k0] at c98'
                          have y2 := z5 _ _ _ yy hr
                          exact Or.inl (fr1 z4 (by omega) hr (by omega) c98'))
                 · rw [e1, e2, e3]
                   exact Or.inr ⟨rfl, Int.le_refl _⟩) (by omega)
        · refine Z_iload_n 45 rfl rfl rfl ?_
          refine Z_bipush 46 rfl rfl ?_
          refine Z_icmp_eq 47 rfl (tgt := 104) rfl (by omega) (by omega) (fun c85 => ?_) (fun c85 => ?_)
          · refine Z_iload 55 rfl rfl ?_
            refine Z_istore_n 56 rfl rfl (Nat.le_of_ble_eq_true rfl) (lv' := [(1, .int _), (10, .long _), (8, .long _), (0, .ref _), (2, .long _), (4, .long _), (6, .int _), (7, .int _)]) rfl ?_
            refine Z_lload 57 rfl rfl ?_
            refine Z_lstore_n 58 rfl rfl (Nat.le_of_ble_eq_true rfl) (lv' := [(2, .long _), (1, .int _), (10, .long _), (8, .long _), (0, .ref _), (4, .long _), (6, .int _), (7, .int _)]) rfl ?_
            refine Z_lload 59 rfl rfl ?_
            refine Z_lstore 60 rfl (Nat.le_of_ble_eq_true rfl) (lv' := [(4, .long _), (2, .long _), (1, .int _), (10, .long _), (8, .long _), (0, .ref _), (6, .int _), (7, .int _)]) rfl ?_
            refine Z_iinc 61 rfl rfl (Nat.le_of_ble_eq_true rfl) (lv' := [(7, .int _), (4, .long _), (2, .long _), (1, .int _), (10, .long _), (8, .long _), (0, .ref _), (6, .int _)]) rfl ?_
            refine Z_goto 62 rfl (tgt := 23) rfl ?_
            refine Z_pick [0, 1, 2, 4, 6, 7] (lv' := [(0, .ref _), (1, .int _), (2, .long _), (4, .long _), (6, .int _), (7, .int _)]) rfl ?_
            first
              | exact ih (a + 1) 0 best x y _ _ _ _ _ _ (by omega) (by omega) (stJ_c (DM_s h.1 (by omega)) h3) (by omega)
              | exact ih a (sd + 1) best x y _ _ _ _ _ _ h1 (by omega) (stJ_c (DM_f c37) h3) (by omega)
              | (have c75' : ¬ 0 < rch p.s (pl p.t kk uu) := by omega
                 exact ih a (sd + 1) best x y _ _ _ _ _ _ h1 (by omega) (by
                   have hD := DM_t h.1 hA
                   rcases h3 with ⟨e, z1⟩ | ⟨b1, b2, A, B, c, b3, b4, b5, b6, b7, k2, u2, z1, z2, z3, z4, z5⟩
                   · refine Or.inl ⟨e, fun a' k u z => ?_⟩
                     rcases (hD _ _ _).mp z with y | ⟨-, y2, y3⟩
                     · exact z1 _ _ _ y
                     · rw [y2, y3]; exact c75'
                   · refine Or.inr ⟨b1, b2, A, B, c, b3, b4, b5, b6, b7, k2, u2, (hD _ _ _).mpr (Or.inl z1), z2, z3, z4, fun a' k' u' hd2 hr => ?_⟩
                     rcases (hD _ _ _).mp hd2 with y | ⟨-, y2, y3⟩
                     · exact z5 _ _ _ y hr
                     · rw [y2, y3] at hr
                       exact absurd hr c75') (by omega))
              | (have c98' : ¬ x * (cc * rch p.s (pl p.t kk uu)) < 57 * (cc * ab (pl p.t kk uu).2.2.1) * y := c98
                 exact ih a (sd + 1) best x y _ _ _ _ _ _ h1 (by omega) (by
                   have hD := DM_t h.1 hA
                   rcases h3 with ⟨e, z1⟩ | ⟨b1, b2, A, B, c, b3, b4, b5, b6, b7, k2, u2, z1, z2, z3, z4, z5⟩
                   · omega
                   · rw [b4, b5, st_sc b3 k0] at c98'
                     refine Or.inr ⟨b1, b2, A, B, c, b3, b4, b5, b6, b7, k2, u2, (hD _ _ _).mpr (Or.inl z1), z2, z3, z4, fun a' k' u' hd2 hr => ?_⟩
                     rcases (hD _ _ _).mp hd2 with y | ⟨y1, y2, y3⟩
                     · exact z5 _ _ _ y hr
                     · rw [y1, y2, y3]
                       have := DM_le z1
                       omega) (by omega))
              | exact ih a (sd + 1) a _ _ _ _ _ _ _ _ h1 (by omega) (by
                   have hD := DM_t h.1 hA
                   refine Or.inr ⟨by omega, by omega, ab (pl p.t kk uu).2.2.1, rch p.s (pl p.t kk uu), cc, k0, rfl, rfl, by omega, by omega, kk, uu, (hD _ _ _).mpr (Or.inr ⟨rfl, rfl, rfl⟩), rfl, rfl, by omega, fun a' k' u' hd2 hr => ?_⟩
                   rcases (hD _ _ _).mp hd2 with yy | ⟨e1, e2, e3⟩
                   · rcases h3 with ⟨e, z1⟩ | ⟨b1, b2, A, B, c, b3, b4, b5, b6, b7, k2, u2, z1, z2, z3, z4, z5⟩
                     · exact absurd hr (z1 _ _ _ yy)
                     · first
                         | (exfalso; omega)
                         | (have c98' : x * (cc * rch p.s (pl p.t kk uu)) < 57 * (cc * ab (pl p.t kk uu).2.2.1) * y := c98
                            rw [b4, b5, st_sc b3 k0] at c98'
                            have y2 := z5 _ _ _ yy hr
                            exact Or.inl (fr1 z4 (by omega) hr (by omega) c98'))
                   · rw [e1, e2, e3]
                     exact Or.inr ⟨rfl, Int.le_refl _⟩) (by omega)
          · refine Z_lload_n 48 rfl rfl rfl ?_
            refine Z_lload 49 rfl rfl ?_
            refine Z_lload 50 rfl rfl ?_
            refine Z_lload 51 rfl rfl ?_
            refine Z_callSbp (M' := M_M_isLess) 52 [] rfl l_M_229 C_M_isLess (c_M_isLess l x y (57 * (cc * ab (pl p.t kk uu).2.2.1)) (cc * rch p.s (pl p.t kk uu)) (by omega) (by omega) (by omega) (by omega)) ⟨List.nodup_nil, zEL.n⟩ rfl rfl rfl (Nat.le_of_ble_eq_true rfl) ⟨rfl, rfl, Nat.le_of_ble_eq_true rfl, Nat.le_of_ble_eq_true rfl⟩ ⟨Nat.zero_le _, Nat.zero_le _⟩ ?_
            refine Z_ifb_ne 53 rfl (tgt := 104) rfl (fun c98 => ?_) (fun c98 => ?_)
            · refine Z_iload 55 rfl rfl ?_
              refine Z_istore_n 56 rfl rfl (Nat.le_of_ble_eq_true rfl) (lv' := [(1, .int _), (10, .long _), (8, .long _), (0, .ref _), (2, .long _), (4, .long _), (6, .int _), (7, .int _)]) rfl ?_
              refine Z_lload 57 rfl rfl ?_
              refine Z_lstore_n 58 rfl rfl (Nat.le_of_ble_eq_true rfl) (lv' := [(2, .long _), (1, .int _), (10, .long _), (8, .long _), (0, .ref _), (4, .long _), (6, .int _), (7, .int _)]) rfl ?_
              refine Z_lload 59 rfl rfl ?_
              refine Z_lstore 60 rfl (Nat.le_of_ble_eq_true rfl) (lv' := [(4, .long _), (2, .long _), (1, .int _), (10, .long _), (8, .long _), (0, .ref _), (6, .int _), (7, .int _)]) rfl ?_
              refine Z_iinc 61 rfl rfl (Nat.le_of_ble_eq_true rfl) (lv' := [(7, .int _), (4, .long _), (2, .long _), (1, .int _), (10, .long _), (8, .long _), (0, .ref _), (6, .int _)]) rfl ?_
              refine Z_goto 62 rfl (tgt := 23) rfl ?_
              refine Z_pick [0, 1, 2, 4, 6, 7] (lv' := [(0, .ref _), (1, .int _), (2, .long _), (4, .long _), (6, .int _), (7, .int _)]) rfl ?_
              first
                | exact ih (a + 1) 0 best x y _ _ _ _ _ _ (by omega) (by omega) (stJ_c (DM_s h.1 (by omega)) h3) (by omega)
                | exact ih a (sd + 1) best x y _ _ _ _ _ _ h1 (by omega) (stJ_c (DM_f c37) h3) (by omega)
                | (have c75' : ¬ 0 < rch p.s (pl p.t kk uu) := by omega
                   exact ih a (sd + 1) best x y _ _ _ _ _ _ h1 (by omega) (by
                     have hD := DM_t h.1 hA
                     rcases h3 with ⟨e, z1⟩ | ⟨b1, b2, A, B, c, b3, b4, b5, b6, b7, k2, u2, z1, z2, z3, z4, z5⟩
                     · refine Or.inl ⟨e, fun a' k u z => ?_⟩
                       rcases (hD _ _ _).mp z with y | ⟨-, y2, y3⟩
                       · exact z1 _ _ _ y
                       · rw [y2, y3]; exact c75'
                     · refine Or.inr ⟨b1, b2, A, B, c, b3, b4, b5, b6, b7, k2, u2, (hD _ _ _).mpr (Or.inl z1), z2, z3, z4, fun a' k' u' hd2 hr => ?_⟩
                       rcases (hD _ _ _).mp hd2 with y | ⟨-, y2, y3⟩
                       · exact z5 _ _ _ y hr
                       · rw [y2, y3] at hr
                         exact absurd hr c75') (by omega))
                | (have c98' : ¬ x * (cc * rch p.s (pl p.t kk uu)) < 57 * (cc * ab (pl p.t kk uu).2.2.1) * y := c98
                   exact ih a (sd + 1) best x y _ _ _ _ _ _ h1 (by omega) (by
                     have hD := DM_t h.1 hA
                     rcases h3 with ⟨e, z1⟩ | ⟨b1, b2, A, B, c, b3, b4, b5, b6, b7, k2, u2, z1, z2, z3, z4, z5⟩
                     · omega
                     · rw [b4, b5, st_sc b3 k0] at c98'
                       refine Or.inr ⟨b1, b2, A, B, c, b3, b4, b5, b6, b7, k2, u2, (hD _ _ _).mpr (Or.inl z1), z2, z3, z4, fun a' k' u' hd2 hr => ?_⟩
                       rcases (hD _ _ _).mp hd2 with y | ⟨y1, y2, y3⟩
                       · exact z5 _ _ _ y hr
                       · rw [y1, y2, y3]
                         have := DM_le z1
                         omega) (by omega))
                | exact ih a (sd + 1) a _ _ _ _ _ _ _ _ h1 (by omega) (by
                     have hD := DM_t h.1 hA
                     refine Or.inr ⟨by omega, by omega, ab (pl p.t kk uu).2.2.1, rch p.s (pl p.t kk uu), cc, k0, rfl, rfl, by omega, by omega, kk, uu, (hD _ _ _).mpr (Or.inr ⟨rfl, rfl, rfl⟩), rfl, rfl, by omega, fun a' k' u' hd2 hr => ?_⟩
                     rcases (hD _ _ _).mp hd2 with yy | ⟨e1, e2, e3⟩
                     · rcases h3 with ⟨e, z1⟩ | ⟨b1, b2, A, B, c, b3, b4, b5, b6, b7, k2, u2, z1, z2, z3, z4, z5⟩
                       · exact absurd hr (z1 _ _ _ yy)
                       · first
                           | (exfalso; omega)
                           | (have c98' : x * (cc * rch p.s (pl p.t kk uu)) < 57 * (cc * ab (pl p.t kk uu).2.2.1) * y := c98
                              rw [b4, b5, st_sc b3 k0] at c98'
                              have y2 := z5 _ _ _ yy hr
                              exact Or.inl (fr1 z4 (by omega) hr (by omega) c98'))
                     · rw [e1, e2, e3]
                       exact Or.inr ⟨rfl, Int.le_refl _⟩) (by omega)
            · refine Z_goto 54 rfl (tgt := 114) rfl ?_
              refine Z_iinc 61 rfl rfl (Nat.le_of_ble_eq_true rfl) (lv' := [(7, .int _), (10, .long _), (8, .long _), (0, .ref _), (1, .int _), (2, .long _), (4, .long _), (6, .int _)]) rfl ?_
              refine Z_goto 62 rfl (tgt := 23) rfl ?_
              refine Z_pick [0, 1, 2, 4, 6, 7] (lv' := [(0, .ref _), (1, .int _), (2, .long _), (4, .long _), (6, .int _), (7, .int _)]) rfl ?_
              first
                | exact ih (a + 1) 0 best x y _ _ _ _ _ _ (by omega) (by omega) (stJ_c (DM_s h.1 (by omega)) h3) (by omega)
                | exact ih a (sd + 1) best x y _ _ _ _ _ _ h1 (by omega) (stJ_c (DM_f c37) h3) (by omega)
                | (have c75' : ¬ 0 < rch p.s (pl p.t kk uu) := by omega
                   exact ih a (sd + 1) best x y _ _ _ _ _ _ h1 (by omega) (by
                     have hD := DM_t h.1 hA
                     rcases h3 with ⟨e, z1⟩ | ⟨b1, b2, A, B, c, b3, b4, b5, b6, b7, k2, u2, z1, z2, z3, z4, z5⟩
                     · refine Or.inl ⟨e, fun a' k u z => ?_⟩
                       rcases (hD _ _ _).mp z with y | ⟨-, y2, y3⟩
                       · exact z1 _ _ _ y
                       · rw [y2, y3]; exact c75'
                     · refine Or.inr ⟨b1, b2, A, B, c, b3, b4, b5, b6, b7, k2, u2, (hD _ _ _).mpr (Or.inl z1), z2, z3, z4, fun a' k' u' hd2 hr => ?_⟩
                       rcases (hD _ _ _).mp hd2 with y | ⟨-, y2, y3⟩
                       · exact z5 _ _ _ y hr
                       · rw [y2, y3] at hr
                         exact absurd hr c75') (by omega))
                | (have c98' : ¬ x * (cc * rch p.s (pl p.t kk uu)) < 57 * (cc * ab (pl p.t kk uu).2.2.1) * y := c98
                   exact ih a (sd + 1) best x y _ _ _ _ _ _ h1 (by omega) (by
                     have hD := DM_t h.1 hA
                     rcases h3 with ⟨e, z1⟩ | ⟨b1, b2, A, B, c, b3, b4, b5, b6, b7, k2, u2, z1, z2, z3, z4, z5⟩
                     · omega
                     · rw [b4, b5, st_sc b3 k0] at c98'
                       refine Or.inr ⟨b1, b2, A, B, c, b3, b4, b5, b6, b7, k2, u2, (hD _ _ _).mpr (Or.inl z1), z2, z3, z4, fun a' k' u' hd2 hr => ?_⟩
                       rcases (hD _ _ _).mp hd2 with y | ⟨y1, y2, y3⟩
                       · exact z5 _ _ _ y hr
                       · rw [y1, y2, y3]
                         have := DM_le z1
                         omega) (by omega))
                | exact ih a (sd + 1) a _ _ _ _ _ _ _ _ h1 (by omega) (by
                     have hD := DM_t h.1 hA
                     refine Or.inr ⟨by omega, by omega, ab (pl p.t kk uu).2.2.1, rch p.s (pl p.t kk uu), cc, k0, rfl, rfl, by omega, by omega, kk, uu, (hD _ _ _).mpr (Or.inr ⟨rfl, rfl, rfl⟩), rfl, rfl, by omega, fun a' k' u' hd2 hr => ?_⟩
                     rcases (hD _ _ _).mp hd2 with yy | ⟨e1, e2, e3⟩
                     · rcases h3 with ⟨e, z1⟩ | ⟨b1, b2, A, B, c, b3, b4, b5, b6, b7, k2, u2, z1, z2, z3, z4, z5⟩
                       · exact absurd hr (z1 _ _ _ yy)
                       · first
                           | (exfalso; omega)
                           | (have c98' : x * (cc * rch p.s (pl p.t kk uu)) < 57 * (cc * ab (pl p.t kk uu).2.2.1) * y := c98
                              rw [b4, b5, st_sc b3 k0] at c98'
                              have y2 := z5 _ _ _ yy hr
                              exact Or.inl (fr1 z4 (by omega) hr (by omega) c98'))
                     · rw [e1, e2, e3]
                       exact Or.inr ⟨rfl, Int.le_refl _⟩) (by omega)
      · refine Z_goto 22 rfl (tgt := 114) rfl ?_
        refine Z_iinc 61 rfl rfl (Nat.le_of_ble_eq_true rfl) (lv' := [(7, .int _), (0, .ref _), (1, .int _), (2, .long _), (4, .long _), (6, .int _)]) rfl ?_
        refine Z_goto 62 rfl (tgt := 23) rfl ?_
        refine Z_pick [0, 1, 2, 4, 6, 7] (lv' := [(0, .ref _), (1, .int _), (2, .long _), (4, .long _), (6, .int _), (7, .int _)]) rfl ?_
        first
          | exact ih (a + 1) 0 best x y _ _ _ _ _ _ (by omega) (by omega) (stJ_c (DM_s h.1 (by omega)) h3) (by omega)
          | exact ih a (sd + 1) best x y _ _ _ _ _ _ h1 (by omega) (stJ_c (DM_f c37) h3) (by omega)
          | (have c75' : ¬ 0 < rch p.s (pl p.t kk uu) := by omega
             exact ih a (sd + 1) best x y _ _ _ _ _ _ h1 (by omega) (by
               have hD := DM_t h.1 hA
               rcases h3 with ⟨e, z1⟩ | ⟨b1, b2, A, B, c, b3, b4, b5, b6, b7, k2, u2, z1, z2, z3, z4, z5⟩
               · refine Or.inl ⟨e, fun a' k u z => ?_⟩
                 rcases (hD _ _ _).mp z with y | ⟨-, y2, y3⟩
                 · exact z1 _ _ _ y
                 · rw [y2, y3]; exact c75'
               · refine Or.inr ⟨b1, b2, A, B, c, b3, b4, b5, b6, b7, k2, u2, (hD _ _ _).mpr (Or.inl z1), z2, z3, z4, fun a' k' u' hd2 hr => ?_⟩
                 rcases (hD _ _ _).mp hd2 with y | ⟨-, y2, y3⟩
                 · exact z5 _ _ _ y hr
                 · rw [y2, y3] at hr
                   exact absurd hr c75') (by omega))
          | (have c98' : ¬ x * (cc * rch p.s (pl p.t kk uu)) < 57 * (cc * ab (pl p.t kk uu).2.2.1) * y := c98
             exact ih a (sd + 1) best x y _ _ _ _ _ _ h1 (by omega) (by
               have hD := DM_t h.1 hA
               rcases h3 with ⟨e, z1⟩ | ⟨b1, b2, A, B, c, b3, b4, b5, b6, b7, k2, u2, z1, z2, z3, z4, z5⟩
               · omega
               · rw [b4, b5, st_sc b3 k0] at c98'
                 refine Or.inr ⟨b1, b2, A, B, c, b3, b4, b5, b6, b7, k2, u2, (hD _ _ _).mpr (Or.inl z1), z2, z3, z4, fun a' k' u' hd2 hr => ?_⟩
                 rcases (hD _ _ _).mp hd2 with y | ⟨y1, y2, y3⟩
                 · exact z5 _ _ _ y hr
                 · rw [y1, y2, y3]
                   have := DM_le z1
                   omega) (by omega))
          | exact ih a (sd + 1) a _ _ _ _ _ _ _ _ h1 (by omega) (by
               have hD := DM_t h.1 hA
               refine Or.inr ⟨by omega, by omega, ab (pl p.t kk uu).2.2.1, rch p.s (pl p.t kk uu), cc, k0, rfl, rfl, by omega, by omega, kk, uu, (hD _ _ _).mpr (Or.inr ⟨rfl, rfl, rfl⟩), rfl, rfl, by omega, fun a' k' u' hd2 hr => ?_⟩
               rcases (hD _ _ _).mp hd2 with yy | ⟨e1, e2, e3⟩
               · rcases h3 with ⟨e, z1⟩ | ⟨b1, b2, A, B, c, b3, b4, b5, b6, b7, k2, u2, z1, z2, z3, z4, z5⟩
                 · exact absurd hr (z1 _ _ _ yy)
                 · first
                     | (exfalso; omega)
                     | (have c98' : x * (cc * rch p.s (pl p.t kk uu)) < 57 * (cc * ab (pl p.t kk uu).2.2.1) * y := c98
                        rw [b4, b5, st_sc b3 k0] at c98'
                        have y2 := z5 _ _ _ yy hr
                        exact Or.inl (fr1 z4 (by omega) hr (by omega) c98'))
               · rw [e1, e2, e3]
                 exact Or.inr ⟨rfl, Int.le_refl _⟩) (by omega)
theorem c_M_steepest (h : MV p) (he fa li sl be ov : Int) : Con l M_M_steepest R_M_steepest 0 0 false [.ref 0] (eM p he fa li sl be ov av bl kw sm ma mf mw cj) (zAi (stA p.t p.s) (LM p av bl kw sm ma mf mw cj)) := by
  have ht := TV_tot h.1
  refine Con.of_Z (by decide) D_M_steepest (Nat.le_of_ble_eq_true rfl) ?_
  refine Z_bipush 0 rfl rfl ?_
  refine Z_istore_n 1 rfl rfl (Nat.le_of_ble_eq_true rfl) (lv' := [(1, .int _), (0, .ref _)]) rfl ?_
  refine Z_lconst 2 rfl ?_
  refine Z_lstore_n 3 rfl rfl (Nat.le_of_ble_eq_true rfl) (lv' := [(2, .long _), (1, .int _), (0, .ref _)]) rfl ?_
  refine Z_lconst 4 rfl ?_
  refine Z_lstore 5 rfl (Nat.le_of_ble_eq_true rfl) (lv' := [(4, .long _), (2, .long _), (1, .int _), (0, .ref _)]) rfl ?_
  refine Z_iconst 6 rfl ?_
  refine Z_istore 7 rfl (Nat.le_of_ble_eq_true rfl) (lv' := [(6, .int _), (4, .long _), (2, .long _), (1, .int _), (0, .ref _)]) rfl ?_
  refine Z_iload 8 rfl rfl ?_
  refine Z_aload_n 9 rfl rfl rfl ?_
  refine Z_callVip (M' := M_M_total) 10 isM rfl l_M_88 C_M_total (c_M_total l p he fa li sl be ov av bl kw sm ma mf mw cj h.1.1) (emM ..) (Or.inl ⟨_, _, _, _, rfl, rfl⟩) rfl rfl rfl (Nat.le_of_ble_eq_true rfl) ⟨rfl, rfl, Nat.le_of_ble_eq_true rfl, Nat.le_of_ble_eq_true rfl⟩ ⟨Nat.zero_le _, Nat.zero_le _⟩ ?_
  refine Z_icmp_gt 11 rfl (tgt := 126) rfl (by omega) (by omega) (fun c17 => ?_) (fun c17 => ?_)
  · exfalso; omega
  refine Z_iconst 12 rfl ?_
  refine Z_istore 13 rfl (Nat.le_of_ble_eq_true rfl) (lv' := [(7, .int _), (6, .int _), (4, .long _), (2, .long _), (1, .int _), (0, .ref _)]) rfl ?_
  refine Z_pick [0, 1, 2, 4, 6, 7] (lv' := [(0, .ref _), (1, .int _), (2, .long _), (4, .long _), (6, .int _), (7, .int _)]) rfl ?_
  exact lp_M_steepest l p av bl kw sm ma mf mw cj h 1083 0 0 (-5) 0 1 _ _ _ _ _ _ (by omega) (by omega) (Or.inl ⟨rfl, fun a k u z => absurd z (DM_0 h.1)⟩) (by omega)
theorem c_M_isGentle (x n he fa li sl be ov : Int) (hx : 0 ≤ x ∧ x ≤ 1000) (hn : 0 ≤ n ∧ n ≤ 999) (hl : -7781996851200000 ≤ li ∧ li ≤ 7781996851200000) (hs : -49884595200000 ≤ sl ∧ sl ≤ 49884595200000) (ho : 1 ≤ ov ∧ ov ≤ 6046617600000) : Con l M_M_isGentle R_M_isGentle 0 0 false [.ref 0, .int (iI x), .int (iI n)] (eM p he fa li sl be ov av bl kw sm ma mf mw cj) (zAb (0 < x * ov + li ∧ ¬ n * (x * ov + li) < 57 * ab sl * 100) (fun m => m = eM p he fa li sl be ov av bl kw sm ma mf mw cj)) := by
  have hab := ab_bd hs
  have m1 := mul_bd (x := x) (y := ov) (A := 1000) (B := 6046617600000) hx (by omega)
  refine Con.of_Z (by decide) D_M_isGentle (Nat.le_of_ble_eq_true rfl) ?_
  refine Z_iload_n 0 rfl rfl rfl ?_
  refine Z_i2l 1 rfl (by omega) ?_
  refine Z_aload_n 2 rfl rfl rfl ?_
  refine Z_get 3 rfl f_M_179 rfl rfl ?_
  refine Z_lmul 4 rfl ?_
  refine Z_aload_n 5 rfl rfl rfl ?_
  refine Z_get 6 rfl f_M_187 rfl rfl ?_
  refine Z_ladd 7 rfl ?_
  refine Z_lstore_n 8 rfl rfl (Nat.le_of_ble_eq_true rfl) (lv' := [(3, .long _), (0, .ref _), (1, .int _), (2, .int _)]) rfl ?_
  refine Z_lload_n 9 rfl rfl rfl ?_
  refine Z_lconst 10 rfl ?_
  refine Z_lc_le 11 rfl rfl (tgt := 46) rfl (by omega) (by omega) (fun c15 => ?_) (fun c15 => ?_)
  · refine Z_iconst 26 rfl ?_
    refine Z_zret 27 rfl rfl rfl ⟨Nat.le_refl _, Nat.le_refl _⟩ ?_
    first | exact ⟨bT (by omega), rfl⟩ | exact ⟨bF (by omega), rfl⟩
  · refine Z_iload_n 13 rfl rfl rfl ?_
    refine Z_i2l 14 rfl (by omega) ?_
    refine Z_ldc2 15 rfl k_M_265 (c := 100) rfl ?_
    refine Z_ldc2 16 rfl k_M_239 (c := 57) rfl ?_
    refine Z_aload_n 17 rfl rfl rfl ?_
    refine Z_get 18 rfl f_M_193 rfl rfl ?_
    refine Z_absL 19 rfl l_M_137 b_st_absL b_ini_Math b_cd_absL (by omega) (Nat.le_of_ble_eq_true rfl) ⟨Nat.le_of_ble_eq_true rfl, Nat.zero_le _, Nat.zero_le _⟩ ?_
    refine Z_cl (show _ = ab sl from rfl) ?_
    refine Z_lmul 20 rfl ?_
    refine Z_lload_n 21 rfl rfl rfl ?_
    refine Z_callSbp (M' := M_M_isLess) 22 [] rfl l_M_229 C_M_isLess (c_M_isLess l n 100 (57 * ab sl) (x * ov + li) (by omega) (by omega) (by omega) (by omega)) ⟨List.nodup_nil, zEL.n⟩ rfl rfl rfl (Nat.le_of_ble_eq_true rfl) ⟨rfl, rfl, Nat.le_of_ble_eq_true rfl, Nat.le_of_ble_eq_true rfl⟩ ⟨Nat.zero_le _, Nat.zero_le _⟩ ?_
    refine Z_ifb_ne 23 rfl (tgt := 46) rfl (fun c39 => ?_) (fun c39 => ?_)
    · refine Z_iconst 26 rfl ?_
      refine Z_zret 27 rfl rfl rfl ⟨Nat.le_refl _, Nat.le_refl _⟩ ?_
      first | exact ⟨bT (by omega), rfl⟩ | exact ⟨bF (by omega), rfl⟩
    · refine Z_iconst 24 rfl ?_
      refine Z_goto 25 rfl (tgt := 47) rfl ?_
      refine Z_zret 27 rfl rfl rfl ⟨Nat.le_refl _, Nat.le_refl _⟩ ?_
      first | exact ⟨bT (by omega), rfl⟩ | exact ⟨bF (by omega), rfl⟩
/-- two by two -/
theorem gen_c {t : TT} {n x k u c L B O : Int} (hc : 1 ≤ c) (h1 : L = c * lf (pl t k u)) (h2 : B = c * (pl t k u).2.2.1) (h4 : O = c * (pl t k u).1) : (0 < x * O + L ∧ ¬ n * (x * O + L) < 57 * ab B * 100) ↔ genQ t n x k u := by
  have e1 : x * O + L = c * (lf (pl t k u) + (pl t k u).1 * x) := by rw [h1, h4]; grind
  have e2 : n * (x * O + L) = c * (n * (lf (pl t k u) + (pl t k u).1 * x)) := by rw [e1]; grind
  have e3 : 57 * ab B * 100 = c * (5700 * ab (pl t k u).2.2.1) := by rw [h2, ab_c hc]; grind
  rw [e2, e3, sc_lt hc, e1, sc_pos hc]
  unfold genQ
  have e4 : n * (lf (pl t k u) + (pl t k u).1 * x) = n * lf (pl t k u) + n * (pl t k u).1 * x := by grind
  rw [e4]
  omega
theorem gen_up {t : TT} (h : TV t) {n x y k u : Int} (hk : 0 ≤ k ∧ k < t.2.2.2) (hu : 0 ≤ u ∧ u ≤ t.2.1 k) (hn : 0 ≤ n) (hxy : x ≤ y) (hq : genQ t n x k u) : genQ t n y k u := by
  have hb := (pl_bd h hk hu).1
  have m1 := Int.mul_le_mul_of_nonneg_left hxy (show 0 ≤ (pl t k u).1 by omega)
  have m2 := Int.mul_le_mul_of_nonneg_left hxy (Int.mul_nonneg hn (show 0 ≤ (pl t k u).1 by omega))
  unfold genQ at *
  omega
theorem lp_M_gentle (h : MV p) (n : Int) (hn : 0 ≤ n ∧ n ≤ 999) : ∀ (d : Nat) (a sd m he fa li sl be ov : Int), (0 ≤ a ∧ a ≤ tot p.t) → (0 ≤ sd ∧ sd ≤ 2) → (1 ≤ m ∧ m ≤ 1000) → (∀ x, 1 ≤ x → x ≤ 999 → (m ≤ x ↔ DA p.t a sd (fun _ k u => genQ p.t n x k u))) → 3 * (tot p.t - a) + (2 - sd) < d → Z (l, M_M_gentle, R_M_gentle, (0, 0), false, zAi (lstA (genP p.t n)) (LM p av bl kw sm ma mf mw cj)) 0 0 (eM p he fa li sl be ov av bl kw sm ma mf mw cj) 30 [(0, .ref 0), (1, .int (iI n)), (2, .int (iI m)), (3, .int (iI a)), (4, .int (iI sd))] [] := by
  have ht := TV_tot h.1
  intro d
  induction d with
  | zero => intro a sd m he fa li sl be ov h1 h2 h3 h4 h5; omega
  | succ d ih =>
    intro a sd m he fa li sl be ov h1 h2 h3 h4 h5
    have inner : ∀ (kk uu : Int), At p.t a sd kk uu → sd < 2 → ∀ (d2 : Nat) (y : Int), (m ≤ y ∧ y ≤ 1000) → 1000 - y < d2 → (∀ x, m ≤ x → x < y → ¬ genQ p.t n x kk uu) → Z (l, M_M_gentle, R_M_gentle, (0, 0), false, zAi (lstA (genP p.t n)) (LM p av bl kw sm ma mf mw cj)) 0 0 (eM p kk uu (mpL p.t kk uu) (mpS p.t kk uu) (mpB p.t kk uu) (mpO p.t kk) av bl kw sm ma mf mw cj) 45 [(0, .ref 0), (1, .int (iI n)), (2, .int (iI y)), (3, .int (iI a)), (4, .int (iI sd)), (5, .int (iI (bI (∃ k u, At p.t a sd k u))))] [] := by
      intro kk uu hA hs2
      have hI := At_in h.1 hA
      have hb := mp_bd h.1 ⟨hI.1.1, hI.1.2.1⟩ hI.2.1
      obtain ⟨cc, k0, k1, k2, k3, k4⟩ := mp_x h.1 hA
      intro d2
      induction d2 with
      | zero => intro y i1 i2 i3; omega
      | succ d2 ih2 =>
        intro y i1 i2 i3
        have eg := gen_c (t := p.t) (n := n) (x := y) k0 k1 k2 k4
        refine Z_iload 26 rfl rfl ?_
        refine Z_ifb_eq 27 rfl (tgt := 72) rfl (fun c47 => ?_) (fun c47 => ?_)
        · exact absurd ⟨kk, uu, hA⟩ c47
        refine Z_iload_n 28 rfl rfl rfl ?_
        refine Z_sipush 29 rfl rfl ?_
        refine Z_icmp_gt 30 rfl (tgt := 72) rfl (by omega) (by omega) (fun c54 => ?_) (fun c54 => ?_)
        · refine Z_iinc 38 rfl rfl (Nat.le_of_ble_eq_true rfl) (lv' := [(4, .int _), (0, .ref _), (1, .int _), (2, .int _), (3, .int _), (5, .int _)]) rfl ?_
          refine Z_goto 39 rfl (tgt := 30) rfl ?_
          refine Z_pick [0, 1, 2, 3, 4] (lv' := [(0, .ref _), (1, .int _), (2, .int _), (3, .int _), (4, .int _)]) rfl ?_
          exact ih a (sd + 1) y kk uu _ _ _ _ h1 (by omega) (by omega) (fun x x1 x2 => by
            rw [DA_t h.1 hA, ← h4 x x1 x2]
            constructor
            · intro z
              first | (exfalso; omega) | exact ⟨by omega, gen_up h.1 ⟨hI.1.1, hI.1.2.1⟩ hI.2.1 hn.1 z (eg.mp c63)⟩
            · rintro ⟨z1, z2⟩
              rcases Int.lt_or_le x y with z | z
              · exact absurd z2 (i3 x z1 z)
              · exact z) (by omega)
        · refine Z_aload_n 31 rfl rfl rfl ?_
          refine Z_iload_n 32 rfl rfl rfl ?_
          refine Z_iload_n 33 rfl rfl rfl ?_
          refine Z_callVbp (M' := M_M_isGentle) 34 isM rfl l_M_267 C_M_isGentle (c_M_isGentle l p av bl kw sm ma mf mw cj y n kk uu (mpL p.t kk uu) (mpS p.t kk uu) (mpB p.t kk uu) (mpO p.t kk) (by omega) hn hb.1 hb.2.1 hb.2.2.2) (emM ..) (Or.inl ⟨_, _, _, _, rfl, rfl⟩) rfl rfl rfl (Nat.le_of_ble_eq_true rfl) ⟨rfl, rfl, Nat.le_of_ble_eq_true rfl, Nat.le_of_ble_eq_true rfl⟩ ⟨Nat.zero_le _, Nat.zero_le _⟩ ?_
          refine Z_ifb_ne 35 rfl (tgt := 72) rfl (fun c63 => ?_) (fun c63 => ?_)
          · refine Z_iinc 38 rfl rfl (Nat.le_of_ble_eq_true rfl) (lv' := [(4, .int _), (0, .ref _), (1, .int _), (2, .int _), (3, .int _), (5, .int _)]) rfl ?_
            refine Z_goto 39 rfl (tgt := 30) rfl ?_
            refine Z_pick [0, 1, 2, 3, 4] (lv' := [(0, .ref _), (1, .int _), (2, .int _), (3, .int _), (4, .int _)]) rfl ?_
            exact ih a (sd + 1) y kk uu _ _ _ _ h1 (by omega) (by omega) (fun x x1 x2 => by
              rw [DA_t h.1 hA, ← h4 x x1 x2]
              constructor
              · intro z
                first | (exfalso; omega) | exact ⟨by omega, gen_up h.1 ⟨hI.1.1, hI.1.2.1⟩ hI.2.1 hn.1 z (eg.mp c63)⟩
              · rintro ⟨z1, z2⟩
                rcases Int.lt_or_le x y with z | z
                · exact absurd z2 (i3 x z1 z)
                · exact z) (by omega)
          · refine Z_iinc 36 rfl rfl (Nat.le_of_ble_eq_true rfl) (lv' := [(2, .int _), (0, .ref _), (1, .int _), (3, .int _), (4, .int _), (5, .int _)]) rfl ?_
            refine Z_goto 37 rfl (tgt := 45) rfl ?_
            refine Z_pick [0, 1, 2, 3, 4, 5] (lv' := [(0, .ref _), (1, .int _), (2, .int _), (3, .int _), (4, .int _), (5, .int _)]) rfl ?_
            exact ih2 (y + 1) (by omega) (by omega) (fun x x1 x2 => by
              by_cases z : x = y
              · rw [z]; exact fun w => c63 (eg.mpr w)
              · exact i3 x x1 (by omega))
    have noo : (¬ ∃ k u, At p.t a sd k u) → sd < 2 → ∀ (he fa li sl be ov : Int), Z (l, M_M_gentle, R_M_gentle, (0, 0), false, zAi (lstA (genP p.t n)) (LM p av bl kw sm ma mf mw cj)) 0 0 (eM p he fa li sl be ov av bl kw sm ma mf mw cj) 45 [(0, .ref 0), (1, .int (iI n)), (2, .int (iI m)), (3, .int (iI a)), (4, .int (iI sd)), (5, .int (iI (bI (∃ k u, At p.t a sd k u))))] [] := by
      intro hn2 hs2 he fa li sl be ov
      refine Z_iload 26 rfl rfl ?_
      refine Z_ifb_eq 27 rfl (tgt := 72) rfl (fun c47 => ?_) (fun c47 => ?_)
      rotate_left
      · exact absurd c47 hn2
      refine Z_iinc 38 rfl rfl (Nat.le_of_ble_eq_true rfl) (lv' := [(4, .int _), (0, .ref _), (1, .int _), (2, .int _), (3, .int _), (5, .int _)]) rfl ?_
      refine Z_goto 39 rfl (tgt := 30) rfl ?_
      refine Z_pick [0, 1, 2, 3, 4] (lv' := [(0, .ref _), (1, .int _), (2, .int _), (3, .int _), (4, .int _)]) rfl ?_
      exact ih a (sd + 1) m _ _ _ _ _ _ h1 (by omega) h3 (fun x x1 x2 => by rw [h4 x x1 x2, DA_f hn2]) (by omega)
    refine Z_iload 18 rfl rfl ?_
    refine Z_iconst 19 rfl ?_
    refine Z_icmp_ge 20 rfl (tgt := 78) rfl (by omega) (by omega) (fun c33 => ?_) (fun c33 => ?_)
    · refine Z_iinc 40 rfl rfl (Nat.le_of_ble_eq_true rfl) (lv' := [(3, .int _), (0, .ref _), (1, .int _), (2, .int _), (4, .int _)]) rfl ?_
      refine Z_goto 41 rfl (tgt := 19) rfl ?_
      refine Z_iload_n 12 rfl rfl rfl ?_
      refine Z_aload_n 13 rfl rfl rfl ?_
      refine Z_callVip (M' := M_M_total) 14 isM rfl l_M_88 C_M_total (c_M_total l p he fa li sl be ov av bl kw sm ma mf mw cj h.1.1) (emM ..) (Or.inl ⟨_, _, _, _, rfl, rfl⟩) rfl rfl rfl (Nat.le_of_ble_eq_true rfl) ⟨rfl, rfl, Nat.le_of_ble_eq_true rfl, Nat.le_of_ble_eq_true rfl⟩ ⟨Nat.zero_le _, Nat.zero_le _⟩ ?_
      refine Z_icmp_gt 15 rfl (tgt := 84) rfl (by omega) (by omega) (fun c24 => ?_) (fun c24 => ?_)
      · refine Z_iload_n 42 rfl rfl rfl ?_
        refine Z_sipush 43 rfl rfl ?_
        refine Z_icmp_le 44 rfl (tgt := 96) rfl (by omega) (by omega) (fun c88 => ?_) (fun c88 => ?_)
        · refine Z_iload_n 47 rfl rfl rfl ?_
          refine Z_iret 48 rfl rfl ⟨Nat.le_refl _, Nat.le_refl _⟩ ?_
          exact ⟨by
            have ef : ∀ x, 1 ≤ x → x ≤ 999 → (m ≤ x ↔ ∀ a k u, Vis p.t a k u → genQ p.t n x k u) := fun x x1 x2 => by rw [h4 x x1 x2, ← DA_s h.1 (show 2 ≤ sd by omega), DA_e h.1 (by omega)]
            first
              | (exfalso; omega)
              | (rw [lstA_eq (v := -5) (Or.inr ⟨rfl, fun x hx => by have := (ef x hx.1 hx.2.1).mpr hx.2.2; have := hx.2.1; omega⟩)])
              | (rw [lstA_eq (v := m) (Or.inl ⟨⟨by omega, by omega, (ef m (by omega) (by omega)).mp (Int.le_refl m)⟩, fun x hx => (ef x hx.1 hx.2.1).mpr hx.2.2⟩)]), _, _, _, _, _, _, rfl⟩
        · refine Z_bipush 45 rfl rfl ?_
          refine Z_goto 46 rfl (tgt := 97) rfl ?_
          refine Z_iret 48 rfl rfl ⟨Nat.le_refl _, Nat.le_refl _⟩ ?_
          exact ⟨by
            have ef : ∀ x, 1 ≤ x → x ≤ 999 → (m ≤ x ↔ ∀ a k u, Vis p.t a k u → genQ p.t n x k u) := fun x x1 x2 => by rw [h4 x x1 x2, ← DA_s h.1 (show 2 ≤ sd by omega), DA_e h.1 (by omega)]
            first
              | (exfalso; omega)
              | (rw [lstA_eq (v := -5) (Or.inr ⟨rfl, fun x hx => by have := (ef x hx.1 hx.2.1).mpr hx.2.2; have := hx.2.1; omega⟩)])
              | (rw [lstA_eq (v := m) (Or.inl ⟨⟨by omega, by omega, (ef m (by omega) (by omega)).mp (Int.le_refl m)⟩, fun x hx => (ef x hx.1 hx.2.1).mpr hx.2.2⟩)]), _, _, _, _, _, _, rfl⟩
      · refine Z_iconst 16 rfl ?_
        refine Z_istore 17 rfl (Nat.le_of_ble_eq_true rfl) (lv' := [(4, .int _), (3, .int _), (0, .ref _), (1, .int _), (2, .int _)]) rfl ?_
        refine Z_pick [0, 1, 2, 3, 4] (lv' := [(0, .ref _), (1, .int _), (2, .int _), (3, .int _), (4, .int _)]) rfl ?_
        exact ih (a + 1) 0 m _ _ _ _ _ _ (by omega) (by omega) h3 (fun x x1 x2 => by rw [h4 x x1 x2, DA_s h.1 (by omega)]) (by omega)
    · refine Z_aload_n 21 rfl rfl rfl ?_
      refine Z_iload_n 22 rfl rfl rfl ?_
      refine Z_iload 23 rfl rfl ?_
      refine Z_callVb (M' := M_M_looks) 24 isM rfl l_M_202 C_M_looks (c_M_looks l p he fa li sl be ov av bl kw sm ma mf mw cj h a sd (by omega) (by omega)) (emM ..) (Or.inl ⟨_, _, _, _, rfl, rfl⟩) rfl rfl rfl (Nat.le_of_ble_eq_true rfl) ⟨rfl, rfl, Nat.le_of_ble_eq_true rfl, Nat.le_of_ble_eq_true rfl⟩ ⟨Nat.zero_le _, Nat.zero_le _⟩ (fun out hq => ?_)
      obtain ⟨he', fa', li', sl', be', ov', rfl, hL⟩ := hq
      refine Z_mem (mgM ..) ?_
      refine Z_istore 25 rfl (Nat.le_of_ble_eq_true rfl) (lv' := [(5, .int _), (0, .ref _), (1, .int _), (2, .int _), (3, .int _), (4, .int _)]) rfl ?_
      refine Z_pick [0, 1, 2, 3, 4, 5] (lv' := [(0, .ref _), (1, .int _), (2, .int _), (3, .int _), (4, .int _), (5, .int _)]) rfl ?_
      by_cases hex : ∃ k u, At p.t a sd k u
      · obtain ⟨kk, uu, hA⟩ := hex
        obtain ⟨e1, e2, e3, e4, e5, e6⟩ := hL kk uu hA
        rw [e1, e2, e3, e4, e5, e6]
        exact inner kk uu hA (by omega) 1001 m (by omega) (by omega) (fun x x1 x2 => by omega)
      · exact noo hex (by omega) _ _ _ _ _ _
theorem c_M_gentle (h : MV p) (n : Int) (hn : inI n) (he fa li sl be ov : Int) : Con l M_M_gentle R_M_gentle 0 0 false [.ref 0, .int (iI n)] (eM p he fa li sl be ov av bl kw sm ma mf mw cj) (zAi (gentleF p.t n) (LM p av bl kw sm ma mf mw cj)) := by
  have ht := TV_tot h.1
  refine Con.of_Z (by decide) D_M_gentle (Nat.le_of_ble_eq_true rfl) ?_
  refine Z_iload_n 0 rfl rfl rfl ?_
  refine Z_i2l 1 rfl (by omega) ?_
  refine Z_lconst 2 rfl ?_
  refine Z_ldc2 3 rfl k_M_257 (c := 999) rfl ?_
  refine Z_callSbp (M' := M_M_in) 4 [] rfl l_M_80 C_M_in (c_M_in l _ _ _ (by omega) (by omega) (by omega)) ⟨List.nodup_nil, zEL.n⟩ rfl rfl rfl (Nat.le_of_ble_eq_true rfl) ⟨rfl, rfl, Nat.le_of_ble_eq_true rfl, Nat.le_of_ble_eq_true rfl⟩ ⟨Nat.zero_le _, Nat.zero_le _⟩ ?_
  refine Z_ifb_ne 5 rfl (tgt := 15) rfl (fun c9 => ?_) (fun c9 => ?_)
  · refine Z_iconst 8 rfl ?_
    refine Z_istore_n 9 rfl rfl (Nat.le_of_ble_eq_true rfl) (lv' := [(2, .int _), (0, .ref _), (1, .int _)]) rfl ?_
    refine Z_iconst 10 rfl ?_
    refine Z_istore_n 11 rfl rfl (Nat.le_of_ble_eq_true rfl) (lv' := [(3, .int _), (2, .int _), (0, .ref _), (1, .int _)]) rfl ?_
    refine Z_iload_n 12 rfl rfl rfl ?_
    refine Z_aload_n 13 rfl rfl rfl ?_
    refine Z_callVip (M' := M_M_total) 14 isM rfl l_M_88 C_M_total (c_M_total l p he fa li sl be ov av bl kw sm ma mf mw cj h.1.1) (emM ..) (Or.inl ⟨_, _, _, _, rfl, rfl⟩) rfl rfl rfl (Nat.le_of_ble_eq_true rfl) ⟨rfl, rfl, Nat.le_of_ble_eq_true rfl, Nat.le_of_ble_eq_true rfl⟩ ⟨Nat.zero_le _, Nat.zero_le _⟩ ?_
    refine Z_icmp_gt 15 rfl (tgt := 84) rfl (by omega) (by omega) (fun c24 => ?_) (fun c24 => ?_)
    · exfalso; omega
    refine Z_iconst 16 rfl ?_
    refine Z_istore 17 rfl (Nat.le_of_ble_eq_true rfl) (lv' := [(4, .int _), (3, .int _), (2, .int _), (0, .ref _), (1, .int _)]) rfl ?_
    refine Z_pick [0, 1, 2, 3, 4] (lv' := [(0, .ref _), (1, .int _), (2, .int _), (3, .int _), (4, .int _)]) rfl ?_
    unfold gentleF
    rw [cif_t (by omega)]
    exact lp_M_gentle l p av bl kw sm ma mf mw cj h n (by omega) 1083 0 0 1 _ _ _ _ _ _ (by omega) (by omega) (by omega) (fun x x1 x2 => ⟨fun _ => DA_0 h.1 _, fun _ => x1⟩) (by omega)
  · refine Z_bipush 6 rfl rfl ?_
    refine Z_iret 7 rfl rfl ⟨Nat.le_refl _, Nat.le_refl _⟩ ?_
    exact ⟨by unfold gentleF; (repeat (first | rw [cif_t (by first | assumption | omega)] | rw [cif_f (by first | assumption | omega)])), _, _, _, _, _, _, rfl⟩
end M6
