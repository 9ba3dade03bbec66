/-! CamPieces: smoothed -/
noncomputable def crn (t : TT) (j : Int) : Int := cif (hj t j) (bI (jpa t j 1 ≠ 0) + 2 * bI ((pl t (pa t j) (t.2.1 (pa t j))).2.2.1 ≠ 0) + 4 * bI ((pl t j 0).2.2.1 ≠ 0)) 0
theorem crn_bd (t : TT) (j : Int) : 0 ≤ crn t j ∧ crn t j ≤ 7 := by
  have f1 := bI_01 (jpa t j 1 ≠ 0)
  have f2 := bI_01 ((pl t (pa t j) (t.2.1 (pa t j))).2.2.1 ≠ 0)
  have f3 := bI_01 ((pl t j 0).2.2.1 ≠ 0)
  unfold crn
  by_cases h : hj t j
  · rw [cif_t h]; omega
  · rw [cif_f h]; omega
/-- a corner is left -/
def hcr (t : TT) (b : Int) : Prop := ∃ k, 0 ≤ k ∧ k < t.2.2.2 ∧ tbi (crn t k) (2 * tbi b (pa t k) + tbi b k) = 1
def mayS (t : TT) (b : Int) : Prop := ∀ k, 0 ≤ k → k < t.2.2.2 → tbi b k = 1 → 1 ≤ t.1 k ∧ t.1 k ≤ 4
def okS (t : TT) (b : Int) : Prop := mayS t b ∧ ¬ hcr t b
def smI (ok : Int → Prop) (b best few : Int) : Prop := (best = -5 ∧ few = 13 ∧ ∀ c, 0 ≤ c → c < b → ¬ ok c) ∨ (0 ≤ best ∧ best < b ∧ ok best ∧ few = pcn best ∧ ∀ c, 0 ≤ c → c < b → ok c → pcn best < pcn c ∨ (pcn best = pcn c ∧ best ≤ c))
def IsSm (t : TT) (v : Int) : Prop := ∃ few, smI (okS t) (p2 t.2.2.2) v few
theorem IsSm_un {t : TT} {v v' : Int} (h : IsSm t v) (h' : IsSm t v') : v = v' := by
  obtain ⟨f, h⟩ := h
  obtain ⟨f', h'⟩ := h'
  rcases h with ⟨a1, a2, a3⟩ | ⟨a1, a2, a3, a4, a5⟩ <;> rcases h' with ⟨b1, b2, b3⟩ | ⟨b1, b2, b3, b4, b5⟩
  · omega
  · exact absurd b3 (a3 _ b1 b2)
  · exact absurd a3 (b3 _ a1 a2)
  · have := a5 _ b1 b2 b3
    have := b5 _ a1 a2 a3
    omega
noncomputable def smF (t : TT) : Int := theI (IsSm t)
theorem smF_eq {t : TT} {v : Int} (h : IsSm t v) : smF t = v := theI_eq h (fun x hx => IsSm_un hx h)
theorem pcn_bd (b : Int) : 0 ≤ pcn b ∧ pcn b ≤ 12 := by
  have e : pcn b = 0 + tbi b 0 + tbi b 1 + tbi b 2 + tbi b 3 + tbi b 4 + tbi b 5 + tbi b 6 + tbi b 7 + tbi b 8 + tbi b 9 + tbi b 10 + tbi b 11 := rfl
  have a0 := tbi_01 b 0
  have a1 := tbi_01 b 1
  have a2 := tbi_01 b 2
  have a3 := tbi_01 b 3
  have a4 := tbi_01 b 4
  have a5 := tbi_01 b 5
  have a6 := tbi_01 b 6
  have a7 := tbi_01 b 7
  have a8 := tbi_01 b 8
  have a9 := tbi_01 b 9
  have a10 := tbi_01 b 10
  have a11 := tbi_01 b 11
  omega
theorem smI_skip {ok : Int → Prop} {b best few : Int} (hb : 0 ≤ b) (h : smI ok b best few) (hs : ¬ ok b ∨ few ≤ pcn b) : smI ok (b + 1) best few := by
  have hp := pcn_bd b
  rcases h with ⟨a1, a2, a3⟩ | ⟨a1, a2, a3, a4, a5⟩
  · refine Or.inl ⟨a1, a2, fun c c1 c2 => ?_⟩
    by_cases e : c = b
    · rw [e]
      rcases hs with hs | hs
      · exact hs
      · omega
    · exact a3 c c1 (by omega)
  · refine Or.inr ⟨a1, by omega, a3, a4, fun c c1 c2 c3 => ?_⟩
    by_cases e : c = b
    · rw [e] at c3 ⊢
      rcases hs with hs | hs
      · exact absurd c3 hs
      · omega
    · exact a5 c c1 (by omega) c3
theorem smI_take {ok : Int → Prop} {b best few : Int} (hb : 0 ≤ b) (h : smI ok b best few) (h1 : ok b) (h2 : ¬ few ≤ pcn b) : smI ok (b + 1) b (pcn b) := by
  refine Or.inr ⟨hb, by omega, h1, rfl, fun c c1 c2 c3 => ?_⟩
  by_cases e : c = b
  · rw [e]
    omega
  · rcases h with ⟨a1, a2, a3⟩ | ⟨a1, a2, a3, a4, a5⟩
    · exact absurd c3 (a3 c c1 (by omega))
    · have := a5 c c1 (by omega) c3
      omega
section C8
variable (l : Launch) (p : PS) (rj : RJ) (w : WW) (g : RR) (sm : Int → Int)
theorem c_C_cornersAt (s : SS) (q q2 : Int × Int) (co : Int → Int) (h : PV p) (j : Int) (hi : inI j) : Con l M_C_cornersAt R_C_cornersAt 0 0 false [.ref 0, .int (iI j)] (eC p rj s w g q q2 sm co) (zAi (crn p.t j) (fun m => ∃ s' q' q2', m = eC p rj s' w g q' q2' sm co)) := by
  have f1 := bI_01 (jpa p.t j 1 ≠ 0)
  have f2 := bI_01 ((pl p.t (pa p.t j) (p.t.2.1 (pa p.t j))).2.2.1 ≠ 0)
  have f3 := bI_01 ((pl p.t j 0).2.2.1 ≠ 0)
  refine Con.of_Z (by decide) D_C_cornersAt (Nat.le_of_ble_eq_true rfl) ?_
  refine Z_aload_n 0 rfl rfl rfl ?_
  refine Z_iload_n 1 rfl rfl rfl ?_
  refine Z_callVbp (M' := M_C_hasJoin) 2 isC rfl l_C_202 C_C_hasJoin (c_C_hasJoin l p rj s w g q q2 sm co h j hi) (emC ..) (Or.inl ⟨_, _, _, _, rfl, rfl⟩) rfl rfl rfl (Nat.le_of_ble_eq_true rfl) ⟨rfl, rfl, Nat.le_of_ble_eq_true rfl, Nat.le_of_ble_eq_true rfl⟩ ⟨Nat.zero_le _, Nat.zero_le _⟩ ?_
  refine Z_ifb_ne 3 rfl (tgt := 10) rfl (fun c5 => ?_) (fun c5 => ?_)
  · have h1 := h.1.1.1
    obtain ⟨hj1, hj2⟩ := hj_in h.1 c5
    have hl1 := TV_L h.1 hj1.1 hj1.2
    have hl2 := TV_L h.1 hj2.1 hj2.2
    have b1 := pl_bd h.1 hj1 (show 0 ≤ (0 : Int) ∧ 0 ≤ p.t.2.1 j by omega)
    have b2 := pl_bd h.1 hj2 (show 0 ≤ p.t.2.1 (pa p.t j) ∧ p.t.2.1 (pa p.t j) ≤ p.t.2.1 (pa p.t j) by omega)
    have d1 := jl_bd h.1 1 c5
    have e1 := lo_z (jpa p.t j 1) (jpb p.t j 1) (jp_bd h.1 1 c5).2.1
    unfold SBd at b1 b2
    refine Z_aload_n 6 rfl rfl rfl ?_
    refine Z_iload_n 7 rfl rfl rfl ?_
    refine Z_iconst 8 rfl ?_
    refine Z_callVv (M' := M_C_reckonJump) 9 isC rfl l_C_205 C_C_reckonJump (c_C_reckonJump l p rj s w g q q2 sm co h j 1 c5 (Or.inl rfl)) (emC ..) (Or.inl ⟨_, _, _, _, rfl, rfl⟩) rfl rfl rfl (Nat.le_of_ble_eq_true rfl) ⟨rfl, rfl, Nat.le_of_ble_eq_true rfl, Nat.le_of_ble_eq_true rfl⟩ ⟨Nat.zero_le _, Nat.zero_le _⟩ (fun out hq => ?_)
    obtain rfl := hq
    refine Z_mem (mgC ..) ?_
    refine Z_aload_n 10 rfl rfl rfl ?_
    refine Z_get 11 rfl f_C_74 rfl rfl ?_
    refine Z_getN 12 rfl f_C_209 rfl rfl ?_
    refine Z_lconst 13 rfl ?_
    refine Z_lc_eq 14 rfl rfl (tgt := 32) rfl (by omega) (by omega) (fun c24 => ?_) (fun c24 => ?_)
    · refine Z_iconst 18 rfl ?_
      refine Z_ci (show _ = bI (jpa p.t j 1 ≠ 0) by first | rw [bI_t (by omega)] | rw [bI_f (by omega)]) ?_
      refine Z_istore_n 19 rfl rfl (Nat.le_of_ble_eq_true rfl) (lv' := [(2, .int _), (0, .ref _), (1, .int _)]) rfl ?_
      refine Z_aload_n 20 rfl rfl rfl ?_
      refine Z_iload_n 21 rfl rfl rfl ?_
      refine Z_callVip (M' := M_C_pieceAhead) 22 isC rfl l_C_369 C_C_pieceAhead (c_C_pieceAhead l p rj _ w g _ _ sm co h j hi) (emC ..) (Or.inl ⟨_, _, _, _, rfl, rfl⟩) rfl rfl rfl (Nat.le_of_ble_eq_true rfl) ⟨rfl, rfl, Nat.le_of_ble_eq_true rfl, Nat.le_of_ble_eq_true rfl⟩ ⟨Nat.zero_le _, Nat.zero_le _⟩ ?_
      refine Z_istore_n 23 rfl rfl (Nat.le_of_ble_eq_true rfl) (lv' := [(3, .int _), (2, .int _), (0, .ref _), (1, .int _)]) rfl ?_
      refine Z_aload_n 24 rfl rfl rfl ?_
      refine Z_iload_n 25 rfl rfl rfl ?_
      refine Z_aload_n 26 rfl rfl rfl ?_
      refine Z_get 27 rfl f_C_14 rfl rfl ?_
      refine Z_iload_n 28 rfl rfl rfl ?_
      refine Z_callVip (M' := M_T_longOf) 29 [1, 2, 3, 4] rfl l_C_125 C_T_longOf (c_T_longOf l p.t (pa p.t j) (by omega)) ⟨by decide, (zEL.c (Or.inl rfl) (zEL.c (Or.inl rfl) (zEL.c (Or.inl rfl) (zEL.c (Or.inl rfl) zEL.n))))⟩ (Or.inl ⟨_, _, _, _, rfl, rfl⟩) rfl rfl rfl (Nat.le_of_ble_eq_true rfl) ⟨rfl, rfl, Nat.le_of_ble_eq_true rfl, Nat.le_of_ble_eq_true rfl⟩ ⟨Nat.zero_le _, Nat.zero_le _⟩ ?_
      refine Z_callVb (M' := M_C_standIn) 30 isC rfl l_C_362 C_C_standIn (c_C_standIn l p rj _ w g _ _ sm co h (pa p.t j) (p.t.2.1 (pa p.t j)) hj2 (by omega)) (emC ..) (Or.inl ⟨_, _, _, _, rfl, rfl⟩) rfl rfl rfl (Nat.le_of_ble_eq_true rfl) ⟨rfl, rfl, Nat.le_of_ble_eq_true rfl, Nat.le_of_ble_eq_true rfl⟩ ⟨Nat.zero_le _, Nat.zero_le _⟩ (fun out hq => ?_)
      obtain rfl := hq
      refine Z_mem (mgC ..) ?_
      refine Z_pop 31 rfl rfl ?_
      refine Z_aload_n 32 rfl rfl rfl ?_
      refine Z_get 33 rfl f_C_53 rfl rfl ?_
      refine Z_getN 34 rfl f_C_188 rfl rfl ?_
      refine Z_lconst 35 rfl ?_
      refine Z_lc_eq 36 rfl rfl (tgt := 70) rfl (by omega) (by omega) (fun c62 => ?_) (fun c62 => ?_)
      · refine Z_iconst 40 rfl ?_
        refine Z_ci (show _ = bI ((pl p.t (pa p.t j) (p.t.2.1 (pa p.t j))).2.2.1 ≠ 0) by first | rw [bI_t (by omega)] | rw [bI_f (by omega)]) ?_
        refine Z_istore 41 rfl (Nat.le_of_ble_eq_true rfl) (lv' := [(4, .int _), (3, .int _), (2, .int _), (0, .ref _), (1, .int _)]) rfl ?_
        refine Z_aload_n 42 rfl rfl rfl ?_
        refine Z_iload_n 43 rfl rfl rfl ?_
        refine Z_iconst 44 rfl ?_
        refine Z_callVb (M' := M_C_standIn) 45 isC rfl l_C_362 C_C_standIn (c_C_standIn l p rj _ w g _ _ sm co h j 0 hj1 (by omega)) (emC ..) (Or.inl ⟨_, _, _, _, rfl, rfl⟩) rfl rfl rfl (Nat.le_of_ble_eq_true rfl) ⟨rfl, rfl, Nat.le_of_ble_eq_true rfl, Nat.le_of_ble_eq_true rfl⟩ ⟨Nat.zero_le _, Nat.zero_le _⟩ (fun out hq => ?_)
        obtain rfl := hq
        refine Z_mem (mgC ..) ?_
        refine Z_pop 46 rfl rfl ?_
        refine Z_aload_n 47 rfl rfl rfl ?_
        refine Z_get 48 rfl f_C_53 rfl rfl ?_
        refine Z_getN 49 rfl f_C_188 rfl rfl ?_
        refine Z_lconst 50 rfl ?_
        refine Z_lc_eq 51 rfl rfl (tgt := 96) rfl (by omega) (by omega) (fun c88 => ?_) (fun c88 => ?_)
        · refine Z_iconst 55 rfl ?_
          refine Z_ci (show _ = bI ((pl p.t j 0).2.2.1 ≠ 0) by first | rw [bI_t (by omega)] | rw [bI_f (by omega)]) ?_
          refine Z_istore 56 rfl (Nat.le_of_ble_eq_true rfl) (lv' := [(5, .int _), (4, .int _), (3, .int _), (2, .int _), (0, .ref _), (1, .int _)]) rfl ?_
          refine Z_iload_n 57 rfl rfl rfl ?_
          refine Z_if_eq 58 rfl (tgt := 107) rfl (by omega) (fun c100 => ?_) (fun c100 => ?_)
          · refine Z_iconst 61 rfl ?_
            refine Z_ci (show _ = bI (jpa p.t j 1 ≠ 0) by omega) ?_
            refine Z_iload 62 rfl rfl ?_
            refine Z_if_eq 63 rfl (tgt := 117) rfl (by omega) (fun c110 => ?_) (fun c110 => ?_)
            · refine Z_iconst 66 rfl ?_
              refine Z_ci (show _ = 2 * bI ((pl p.t (pa p.t j) (p.t.2.1 (pa p.t j))).2.2.1 ≠ 0) by omega) ?_
              refine Z_ior 67 rfl ?_
              refine Z_ti (show _ = iI (bI (jpa p.t j 1 ≠ 0) + 2 * bI ((pl p.t (pa p.t j) (p.t.2.1 (pa p.t j))).2.2.1 ≠ 0)) by rcases f1 with y1 | y1 <;> rcases f2 with y2 | y2 <;> rw [y1, y2] <;> decide) ?_
              refine Z_iload 68 rfl rfl ?_
              refine Z_if_eq 69 rfl (tgt := 128) rfl (by omega) (fun c121 => ?_) (fun c121 => ?_)
              · refine Z_iconst 72 rfl ?_
                refine Z_ci (show _ = 4 * bI ((pl p.t j 0).2.2.1 ≠ 0) by omega) ?_
                refine Z_ior 73 rfl ?_
                refine Z_ti (show _ = iI (crn p.t j) by unfold crn; rw [cif_t c5]; rcases f1 with y1 | y1 <;> rcases f2 with y2 | y2 <;> rcases f3 with y3 | y3 <;> rw [y1, y2, y3] <;> decide) ?_
                refine Z_iret 74 rfl rfl ⟨Nat.le_refl _, Nat.le_refl _⟩ ?_
                exact ⟨rfl, _, _, _, rfl⟩
              · refine Z_iconst 70 rfl ?_
                refine Z_goto 71 rfl (tgt := 129) rfl ?_
                refine Z_ci (show _ = 4 * bI ((pl p.t j 0).2.2.1 ≠ 0) by omega) ?_
                refine Z_ior 73 rfl ?_
                refine Z_ti (show _ = iI (crn p.t j) by unfold crn; rw [cif_t c5]; rcases f1 with y1 | y1 <;> rcases f2 with y2 | y2 <;> rcases f3 with y3 | y3 <;> rw [y1, y2, y3] <;> decide) ?_
                refine Z_iret 74 rfl rfl ⟨Nat.le_refl _, Nat.le_refl _⟩ ?_
                exact ⟨rfl, _, _, _, rfl⟩
            · refine Z_iconst 64 rfl ?_
              refine Z_goto 65 rfl (tgt := 118) rfl ?_
              refine Z_ci (show _ = 2 * bI ((pl p.t (pa p.t j) (p.t.2.1 (pa p.t j))).2.2.1 ≠ 0) by omega) ?_
              refine Z_ior 67 rfl ?_
              refine Z_ti (show _ = iI (bI (jpa p.t j 1 ≠ 0) + 2 * bI ((pl p.t (pa p.t j) (p.t.2.1 (pa p.t j))).2.2.1 ≠ 0)) by rcases f1 with y1 | y1 <;> rcases f2 with y2 | y2 <;> rw [y1, y2] <;> decide) ?_
              refine Z_iload 68 rfl rfl ?_
              refine Z_if_eq 69 rfl (tgt := 128) rfl (by omega) (fun c121 => ?_) (fun c121 => ?_)
              · refine Z_iconst 72 rfl ?_
                refine Z_ci (show _ = 4 * bI ((pl p.t j 0).2.2.1 ≠ 0) by omega) ?_
                refine Z_ior 73 rfl ?_
                refine Z_ti (show _ = iI (crn p.t j) by unfold crn; rw [cif_t c5]; rcases f1 with y1 | y1 <;> rcases f2 with y2 | y2 <;> rcases f3 with y3 | y3 <;> rw [y1, y2, y3] <;> decide) ?_
                refine Z_iret 74 rfl rfl ⟨Nat.le_refl _, Nat.le_refl _⟩ ?_
                exact ⟨rfl, _, _, _, rfl⟩
              · refine Z_iconst 70 rfl ?_
                refine Z_goto 71 rfl (tgt := 129) rfl ?_
                refine Z_ci (show _ = 4 * bI ((pl p.t j 0).2.2.1 ≠ 0) by omega) ?_
                refine Z_ior 73 rfl ?_
                refine Z_ti (show _ = iI (crn p.t j) by unfold crn; rw [cif_t c5]; rcases f1 with y1 | y1 <;> rcases f2 with y2 | y2 <;> rcases f3 with y3 | y3 <;> rw [y1, y2, y3] <;> decide) ?_
                refine Z_iret 74 rfl rfl ⟨Nat.le_refl _, Nat.le_refl _⟩ ?_
                exact ⟨rfl, _, _, _, rfl⟩
          · refine Z_iconst 59 rfl ?_
            refine Z_goto 60 rfl (tgt := 108) rfl ?_
            refine Z_ci (show _ = bI (jpa p.t j 1 ≠ 0) by omega) ?_
            refine Z_iload 62 rfl rfl ?_
            refine Z_if_eq 63 rfl (tgt := 117) rfl (by omega) (fun c110 => ?_) (fun c110 => ?_)
            · refine Z_iconst 66 rfl ?_
              refine Z_ci (show _ = 2 * bI ((pl p.t (pa p.t j) (p.t.2.1 (pa p.t j))).2.2.1 ≠ 0) by omega) ?_
              refine Z_ior 67 rfl ?_
              refine Z_ti (show _ = iI (bI (jpa p.t j 1 ≠ 0) + 2 * bI ((pl p.t (pa p.t j) (p.t.2.1 (pa p.t j))).2.2.1 ≠ 0)) by rcases f1 with y1 | y1 <;> rcases f2 with y2 | y2 <;> rw [y1, y2] <;> decide) ?_
              refine Z_iload 68 rfl rfl ?_
              refine Z_if_eq 69 rfl (tgt := 128) rfl (by omega) (fun c121 => ?_) (fun c121 => ?_)
              · refine Z_iconst 72 rfl ?_
                refine Z_ci (show _ = 4 * bI ((pl p.t j 0).2.2.1 ≠ 0) by omega) ?_
                refine Z_ior 73 rfl ?_
                refine Z_ti (show _ = iI (crn p.t j) by unfold crn; rw [cif_t c5]; rcases f1 with y1 | y1 <;> rcases f2 with y2 | y2 <;> rcases f3 with y3 | y3 <;> rw [y1, y2, y3] <;> decide) ?_
                refine Z_iret 74 rfl rfl ⟨Nat.le_refl _, Nat.le_refl _⟩ ?_
                exact ⟨rfl, _, _, _, rfl⟩
              · refine Z_iconst 70 rfl ?_
                refine Z_goto 71 rfl (tgt := 129) rfl ?_
                refine Z_ci (show _ = 4 * bI ((pl p.t j 0).2.2.1 ≠ 0) by omega) ?_
                refine Z_ior 73 rfl ?_
                refine Z_ti (show _ = iI (crn p.t j) by unfold crn; rw [cif_t c5]; rcases f1 with y1 | y1 <;> rcases f2 with y2 | y2 <;> rcases f3 with y3 | y3 <;> rw [y1, y2, y3] <;> decide) ?_
                refine Z_iret 74 rfl rfl ⟨Nat.le_refl _, Nat.le_refl _⟩ ?_
                exact ⟨rfl, _, _, _, rfl⟩
            · refine Z_iconst 64 rfl ?_
              refine Z_goto 65 rfl (tgt := 118) rfl ?_
              refine Z_ci (show _ = 2 * bI ((pl p.t (pa p.t j) (p.t.2.1 (pa p.t j))).2.2.1 ≠ 0) by omega) ?_
              refine Z_ior 67 rfl ?_
              refine Z_ti (show _ = iI (bI (jpa p.t j 1 ≠ 0) + 2 * bI ((pl p.t (pa p.t j) (p.t.2.1 (pa p.t j))).2.2.1 ≠ 0)) by rcases f1 with y1 | y1 <;> rcases f2 with y2 | y2 <;> rw [y1, y2] <;> decide) ?_
              refine Z_iload 68 rfl rfl ?_
              refine Z_if_eq 69 rfl (tgt := 128) rfl (by omega) (fun c121 => ?_) (fun c121 => ?_)
              · refine Z_iconst 72 rfl ?_
                refine Z_ci (show _ = 4 * bI ((pl p.t j 0).2.2.1 ≠ 0) by omega) ?_
                refine Z_ior 73 rfl ?_
                refine Z_ti (show _ = iI (crn p.t j) by unfold crn; rw [cif_t c5]; rcases f1 with y1 | y1 <;> rcases f2 with y2 | y2 <;> rcases f3 with y3 | y3 <;> rw [y1, y2, y3] <;> decide) ?_
                refine Z_iret 74 rfl rfl ⟨Nat.le_refl _, Nat.le_refl _⟩ ?_
                exact ⟨rfl, _, _, _, rfl⟩
              · refine Z_iconst 70 rfl ?_
                refine Z_goto 71 rfl (tgt := 129) rfl ?_
                refine Z_ci (show _ = 4 * bI ((pl p.t j 0).2.2.1 ≠ 0) by omega) ?_
                refine Z_ior 73 rfl ?_
                refine Z_ti (show _ = iI (crn p.t j) by unfold crn; rw [cif_t c5]; rcases f1 with y1 | y1 <;> rcases f2 with y2 | y2 <;> rcases f3 with y3 | y3 <;> rw [y1, y2, y3] <;> decide) ?_
                refine Z_iret 74 rfl rfl ⟨Nat.le_refl _, Nat.le_refl _⟩ ?_
                exact ⟨rfl, _, _, _, rfl⟩
        · refine Z_iconst 53 rfl ?_
          refine Z_goto 54 rfl (tgt := 97) rfl ?_
          refine Z_ci (show _ = bI ((pl p.t j 0).2.2.1 ≠ 0) by first | rw [bI_t (by omega)] | rw [bI_f (by omega)]) ?_
          refine Z_istore 56 rfl (Nat.le_of_ble_eq_true rfl) (lv' := [(5, .int _), (4, .int _), (3, .int _), (2, .int _), (0, .ref _), (1, .int _)]) rfl ?_
          refine Z_iload_n 57 rfl rfl rfl ?_
          refine Z_if_eq 58 rfl (tgt := 107) rfl (by omega) (fun c100 => ?_) (fun c100 => ?_)
          · refine Z_iconst 61 rfl ?_
            refine Z_ci (show _ = bI (jpa p.t j 1 ≠ 0) by omega) ?_
            refine Z_iload 62 rfl rfl ?_
            refine Z_if_eq 63 rfl (tgt := 117) rfl (by omega) (fun c110 => ?_) (fun c110 => ?_)
            · refine Z_iconst 66 rfl ?_
              refine Z_ci (show _ = 2 * bI ((pl p.t (pa p.t j) (p.t.2.1 (pa p.t j))).2.2.1 ≠ 0) by omega) ?_
              refine Z_ior 67 rfl ?_
              refine Z_ti (show _ = iI (bI (jpa p.t j 1 ≠ 0) + 2 * bI ((pl p.t (pa p.t j) (p.t.2.1 (pa p.t j))).2.2.1 ≠ 0)) by rcases f1 with y1 | y1 <;> rcases f2 with y2 | y2 <;> rw [y1, y2] <;> decide) ?_
              refine Z_iload 68 rfl rfl ?_
              refine Z_if_eq 69 rfl (tgt := 128) rfl (by omega) (fun c121 => ?_) (fun c121 => ?_)
              · refine Z_iconst 72 rfl ?_
                refine Z_ci (show _ = 4 * bI ((pl p.t j 0).2.2.1 ≠ 0) by omega) ?_
                refine Z_ior 73 rfl ?_
                refine Z_ti (show _ = iI (crn p.t j) by unfold crn; rw [cif_t c5]; rcases f1 with y1 | y1 <;> rcases f2 with y2 | y2 <;> rcases f3 with y3 | y3 <;> rw [y1, y2, y3] <;> decide) ?_
                refine Z_iret 74 rfl rfl ⟨Nat.le_refl _, Nat.le_refl _⟩ ?_
                exact ⟨rfl, _, _, _, rfl⟩
              · refine Z_iconst 70 rfl ?_
                refine Z_goto 71 rfl (tgt := 129) rfl ?_
                refine Z_ci (show _ = 4 * bI ((pl p.t j 0).2.2.1 ≠ 0) by omega) ?_
                refine Z_ior 73 rfl ?_
                refine Z_ti (show _ = iI (crn p.t j) by unfold crn; rw [cif_t c5]; rcases f1 with y1 | y1 <;> rcases f2 with y2 | y2 <;> rcases f3 with y3 | y3 <;> rw [y1, y2, y3] <;> decide) ?_
                refine Z_iret 74 rfl rfl ⟨Nat.le_refl _, Nat.le_refl _⟩ ?_
                exact ⟨rfl, _, _, _, rfl⟩
            · refine Z_iconst 64 rfl ?_
              refine Z_goto 65 rfl (tgt := 118) rfl ?_
              refine Z_ci (show _ = 2 * bI ((pl p.t (pa p.t j) (p.t.2.1 (pa p.t j))).2.2.1 ≠ 0) by omega) ?_
              refine Z_ior 67 rfl ?_
              refine Z_ti (show _ = iI (bI (jpa p.t j 1 ≠ 0) + 2 * bI ((pl p.t (pa p.t j) (p.t.2.1 (pa p.t j))).2.2.1 ≠ 0)) by rcases f1 with y1 | y1 <;> rcases f2 with y2 | y2 <;> rw [y1, y2] <;> decide) ?_
              refine Z_iload 68 rfl rfl ?_
              refine Z_if_eq 69 rfl (tgt := 128) rfl (by omega) (fun c121 => ?_) (fun c121 => ?_)
              · refine Z_iconst 72 rfl ?_
                refine Z_ci (show _ = 4 * bI ((pl p.t j 0).2.2.1 ≠ 0) by omega) ?_
                refine Z_ior 73 rfl ?_
                refine Z_ti (show _ = iI (crn p.t j) by unfold crn; rw [cif_t c5]; rcases f1 with y1 | y1 <;> rcases f2 with y2 | y2 <;> rcases f3 with y3 | y3 <;> rw [y1, y2, y3] <;> decide) ?_
                refine Z_iret 74 rfl rfl ⟨Nat.le_refl _, Nat.le_refl _⟩ ?_
                exact ⟨rfl, _, _, _, rfl⟩
              · refine Z_iconst 70 rfl ?_
                refine Z_goto 71 rfl (tgt := 129) rfl ?_
                refine Z_ci (show _ = 4 * bI ((pl p.t j 0).2.2.1 ≠ 0) by omega) ?_
                refine Z_ior 73 rfl ?_
                refine Z_ti (show _ = iI (crn p.t j) by unfold crn; rw [cif_t c5]; rcases f1 with y1 | y1 <;> rcases f2 with y2 | y2 <;> rcases f3 with y3 | y3 <;> rw [y1, y2, y3] <;> decide) ?_
                refine Z_iret 74 rfl rfl ⟨Nat.le_refl _, Nat.le_refl _⟩ ?_
                exact ⟨rfl, _, _, _, rfl⟩
          · refine Z_iconst 59 rfl ?_
            refine Z_goto 60 rfl (tgt := 108) rfl ?_
            refine Z_ci (show _ = bI (jpa p.t j 1 ≠ 0) by omega) ?_
            refine Z_iload 62 rfl rfl ?_
            refine Z_if_eq 63 rfl (tgt := 117) rfl (by omega) (fun c110 => ?_) (fun c110 => ?_)
            · refine Z_iconst 66 rfl ?_
              refine Z_ci (show _ = 2 * bI ((pl p.t (pa p.t j) (p.t.2.1 (pa p.t j))).2.2.1 ≠ 0) by omega) ?_
              refine Z_ior 67 rfl ?_
              refine Z_ti (show _ = iI (bI (jpa p.t j 1 ≠ 0) + 2 * bI ((pl p.t (pa p.t j) (p.t.2.1 (pa p.t j))).2.2.1 ≠ 0)) by rcases f1 with y1 | y1 <;> rcases f2 with y2 | y2 <;> rw [y1, y2] <;> decide) ?_
              refine Z_iload 68 rfl rfl ?_
              refine Z_if_eq 69 rfl (tgt := 128) rfl (by omega) (fun c121 => ?_) (fun c121 => ?_)
              · refine Z_iconst 72 rfl ?_
                refine Z_ci (show _ = 4 * bI ((pl p.t j 0).2.2.1 ≠ 0) by omega) ?_
                refine Z_ior 73 rfl ?_
                refine Z_ti (show _ = iI (crn p.t j) by unfold crn; rw [cif_t c5]; rcases f1 with y1 | y1 <;> rcases f2 with y2 | y2 <;> rcases f3 with y3 | y3 <;> rw [y1, y2, y3] <;> decide) ?_
                refine Z_iret 74 rfl rfl ⟨Nat.le_refl _, Nat.le_refl _⟩ ?_
                exact ⟨rfl, _, _, _, rfl⟩
              · refine Z_iconst 70 rfl ?_
                refine Z_goto 71 rfl (tgt := 129) rfl ?_
                refine Z_ci (show _ = 4 * bI ((pl p.t j 0).2.2.1 ≠ 0) by omega) ?_
                refine Z_ior 73 rfl ?_
                refine Z_ti (show _ = iI (crn p.t j) by unfold crn; rw [cif_t c5]; rcases f1 with y1 | y1 <;> rcases f2 with y2 | y2 <;> rcases f3 with y3 | y3 <;> rw [y1, y2, y3] <;> decide) ?_
                refine Z_iret 74 rfl rfl ⟨Nat.le_refl _, Nat.le_refl _⟩ ?_
                exact ⟨rfl, _, _, _, rfl⟩
            · refine Z_iconst 64 rfl ?_
              refine Z_goto 65 rfl (tgt := 118) rfl ?_
              refine Z_ci (show _ = 2 * bI ((pl p.t (pa p.t j) (p.t.2.1 (pa p.t j))).2.2.1 ≠ 0) by omega) ?_
              refine Z_ior 67 rfl ?_
              refine Z_ti (show _ = iI (bI (jpa p.t j 1 ≠ 0) + 2 * bI ((pl p.t (pa p.t j) (p.t.2.1 (pa p.t j))).2.2.1 ≠ 0)) by rcases f1 with y1 | y1 <;> rcases f2 with y2 | y2 <;> rw [y1, y2] <;> decide) ?_
              refine Z_iload 68 rfl rfl ?_
              refine Z_if_eq 69 rfl (tgt := 128) rfl (by omega) (fun c121 => ?_) (fun c121 => ?_)
              · refine Z_iconst 72 rfl ?_
                refine Z_ci (show _ = 4 * bI ((pl p.t j 0).2.2.1 ≠ 0) by omega) ?_
                refine Z_ior 73 rfl ?_
                refine Z_ti (show _ = iI (crn p.t j) by unfold crn; rw [cif_t c5]; rcases f1 with y1 | y1 <;> rcases f2 with y2 | y2 <;> rcases f3 with y3 | y3 <;> rw [y1, y2, y3] <;> decide) ?_
                refine Z_iret 74 rfl rfl ⟨Nat.le_refl _, Nat.le_refl _⟩ ?_
                exact ⟨rfl, _, _, _, rfl⟩
              · refine Z_iconst 70 rfl ?_
                refine Z_goto 71 rfl (tgt := 129) rfl ?_
                refine Z_ci (show _ = 4 * bI ((pl p.t j 0).2.2.1 ≠ 0) by omega) ?_
                refine Z_ior 73 rfl ?_
                refine Z_ti (show _ = iI (crn p.t j) by unfold crn; rw [cif_t c5]; rcases f1 with y1 | y1 <;> rcases f2 with y2 | y2 <;> rcases f3 with y3 | y3 <;> rw [y1, y2, y3] <;> decide) ?_
                refine Z_iret 74 rfl rfl ⟨Nat.le_refl _, Nat.le_refl _⟩ ?_
                exact ⟨rfl, _, _, _, rfl⟩
      · refine Z_iconst 38 rfl ?_
        refine Z_goto 39 rfl (tgt := 71) rfl ?_
        refine Z_ci (show _ = bI ((pl p.t (pa p.t j) (p.t.2.1 (pa p.t j))).2.2.1 ≠ 0) by first | rw [bI_t (by omega)] | rw [bI_f (by omega)]) ?_
        refine Z_istore 41 rfl (Nat.le_of_ble_eq_true rfl) (lv' := [(4, .int _), (3, .int _), (2, .int _), (0, .ref _), (1, .int _)]) rfl ?_
        refine Z_aload_n 42 rfl rfl rfl ?_
        refine Z_iload_n 43 rfl rfl rfl ?_
        refine Z_iconst 44 rfl ?_
        refine Z_callVb (M' := M_C_standIn) 45 isC rfl l_C_362 C_C_standIn (c_C_standIn l p rj _ w g _ _ sm co h j 0 hj1 (by omega)) (emC ..) (Or.inl ⟨_, _, _, _, rfl, rfl⟩) rfl rfl rfl (Nat.le_of_ble_eq_true rfl) ⟨rfl, rfl, Nat.le_of_ble_eq_true rfl, Nat.le_of_ble_eq_true rfl⟩ ⟨Nat.zero_le _, Nat.zero_le _⟩ (fun out hq => ?_)
        obtain rfl := hq
        refine Z_mem (mgC ..) ?_
        refine Z_pop 46 rfl rfl ?_
        refine Z_aload_n 47 rfl rfl rfl ?_
        refine Z_get 48 rfl f_C_53 rfl rfl ?_
        refine Z_getN 49 rfl f_C_188 rfl rfl ?_
        refine Z_lconst 50 rfl ?_
        refine Z_lc_eq 51 rfl rfl (tgt := 96) rfl (by omega) (by omega) (fun c88 => ?_) (fun c88 => ?_)
        · refine Z_iconst 55 rfl ?_
          refine Z_ci (show _ = bI ((pl p.t j 0).2.2.1 ≠ 0) by first | rw [bI_t (by omega)] | rw [bI_f (by omega)]) ?_
          refine Z_istore 56 rfl (Nat.le_of_ble_eq_true rfl) (lv' := [(5, .int _), (4, .int _), (3, .int _), (2, .int _), (0, .ref _), (1, .int _)]) rfl ?_
          refine Z_iload_n 57 rfl rfl rfl ?_
          refine Z_if_eq 58 rfl (tgt := 107) rfl (by omega) (fun c100 => ?_) (fun c100 => ?_)
          · refine Z_iconst 61 rfl ?_
            refine Z_ci (show _ = bI (jpa p.t j 1 ≠ 0) by omega) ?_
            refine Z_iload 62 rfl rfl ?_
            refine Z_if_eq 63 rfl (tgt := 117) rfl (by omega) (fun c110 => ?_) (fun c110 => ?_)
            · refine Z_iconst 66 rfl ?_
              refine Z_ci (show _ = 2 * bI ((pl p.t (pa p.t j) (p.t.2.1 (pa p.t j))).2.2.1 ≠ 0) by omega) ?_
              refine Z_ior 67 rfl ?_
              refine Z_ti (show _ = iI (bI (jpa p.t j 1 ≠ 0) + 2 * bI ((pl p.t (pa p.t j) (p.t.2.1 (pa p.t j))).2.2.1 ≠ 0)) by rcases f1 with y1 | y1 <;> rcases f2 with y2 | y2 <;> rw [y1, y2] <;> decide) ?_
              refine Z_iload 68 rfl rfl ?_
              refine Z_if_eq 69 rfl (tgt := 128) rfl (by omega) (fun c121 => ?_) (fun c121 => ?_)
              · refine Z_iconst 72 rfl ?_
                refine Z_ci (show _ = 4 * bI ((pl p.t j 0).2.2.1 ≠ 0) by omega) ?_
                refine Z_ior 73 rfl ?_
                refine Z_ti (show _ = iI (crn p.t j) by unfold crn; rw [cif_t c5]; rcases f1 with y1 | y1 <;> rcases f2 with y2 | y2 <;> rcases f3 with y3 | y3 <;> rw [y1, y2, y3] <;> decide) ?_
                refine Z_iret 74 rfl rfl ⟨Nat.le_refl _, Nat.le_refl _⟩ ?_
                exact ⟨rfl, _, _, _, rfl⟩
              · refine Z_iconst 70 rfl ?_
                refine Z_goto 71 rfl (tgt := 129) rfl ?_
                refine Z_ci (show _ = 4 * bI ((pl p.t j 0).2.2.1 ≠ 0) by omega) ?_
                refine Z_ior 73 rfl ?_
                refine Z_ti (show _ = iI (crn p.t j) by unfold crn; rw [cif_t c5]; rcases f1 with y1 | y1 <;> rcases f2 with y2 | y2 <;> rcases f3 with y3 | y3 <;> rw [y1, y2, y3] <;> decide) ?_
                refine Z_iret 74 rfl rfl ⟨Nat.le_refl _, Nat.le_refl _⟩ ?_
                exact ⟨rfl, _, _, _, rfl⟩
            · refine Z_iconst 64 rfl ?_
              refine Z_goto 65 rfl (tgt := 118) rfl ?_
              refine Z_ci (show _ = 2 * bI ((pl p.t (pa p.t j) (p.t.2.1 (pa p.t j))).2.2.1 ≠ 0) by omega) ?_
              refine Z_ior 67 rfl ?_
              refine Z_ti (show _ = iI (bI (jpa p.t j 1 ≠ 0) + 2 * bI ((pl p.t (pa p.t j) (p.t.2.1 (pa p.t j))).2.2.1 ≠ 0)) by rcases f1 with y1 | y1 <;> rcases f2 with y2 | y2 <;> rw [y1, y2] <;> decide) ?_
              refine Z_iload 68 rfl rfl ?_
              refine Z_if_eq 69 rfl (tgt := 128) rfl (by omega) (fun c121 => ?_) (fun c121 => ?_)
              · refine Z_iconst 72 rfl ?_
                refine Z_ci (show _ = 4 * bI ((pl p.t j 0).2.2.1 ≠ 0) by omega) ?_
                refine Z_ior 73 rfl ?_
                refine Z_ti (show _ = iI (crn p.t j) by unfold crn; rw [cif_t c5]; rcases f1 with y1 | y1 <;> rcases f2 with y2 | y2 <;> rcases f3 with y3 | y3 <;> rw [y1, y2, y3] <;> decide) ?_
                refine Z_iret 74 rfl rfl ⟨Nat.le_refl _, Nat.le_refl _⟩ ?_
                exact ⟨rfl, _, _, _, rfl⟩
              · refine Z_iconst 70 rfl ?_
                refine Z_goto 71 rfl (tgt := 129) rfl ?_
                refine Z_ci (show _ = 4 * bI ((pl p.t j 0).2.2.1 ≠ 0) by omega) ?_
                refine Z_ior 73 rfl ?_
                refine Z_ti (show _ = iI (crn p.t j) by unfold crn; rw [cif_t c5]; rcases f1 with y1 | y1 <;> rcases f2 with y2 | y2 <;> rcases f3 with y3 | y3 <;> rw [y1, y2, y3] <;> decide) ?_
                refine Z_iret 74 rfl rfl ⟨Nat.le_refl _, Nat.le_refl _⟩ ?_
                exact ⟨rfl, _, _, _, rfl⟩
          · refine Z_iconst 59 rfl ?_
            refine Z_goto 60 rfl (tgt := 108) rfl ?_
            refine Z_ci (show _ = bI (jpa p.t j 1 ≠ 0) by omega) ?_
            refine Z_iload 62 rfl rfl ?_
            refine Z_if_eq 63 rfl (tgt := 117) rfl (by omega) (fun c110 => ?_) (fun c110 => ?_)
            · refine Z_iconst 66 rfl ?_
              refine Z_ci (show _ = 2 * bI ((pl p.t (pa p.t j) (p.t.2.1 (pa p.t j))).2.2.1 ≠ 0) by omega) ?_
              refine Z_ior 67 rfl ?_
              refine Z_ti (show _ = iI (bI (jpa p.t j 1 ≠ 0) + 2 * bI ((pl p.t (pa p.t j) (p.t.2.1 (pa p.t j))).2.2.1 ≠ 0)) by rcases f1 with y1 | y1 <;> rcases f2 with y2 | y2 <;> rw [y1, y2] <;> decide) ?_
              refine Z_iload 68 rfl rfl ?_
              refine Z_if_eq 69 rfl (tgt := 128) rfl (by omega) (fun c121 => ?_) (fun c121 => ?_)
              · refine Z_iconst 72 rfl ?_
                refine Z_ci (show _ = 4 * bI ((pl p.t j 0).2.2.1 ≠ 0) by omega) ?_
                refine Z_ior 73 rfl ?_
                refine Z_ti (show _ = iI (crn p.t j) by unfold crn; rw [cif_t c5]; rcases f1 with y1 | y1 <;> rcases f2 with y2 | y2 <;> rcases f3 with y3 | y3 <;> rw [y1, y2, y3] <;> decide) ?_
                refine Z_iret 74 rfl rfl ⟨Nat.le_refl _, Nat.le_refl _⟩ ?_
                exact ⟨rfl, _, _, _, rfl⟩
              · refine Z_iconst 70 rfl ?_
                refine Z_goto 71 rfl (tgt := 129) rfl ?_
                refine Z_ci (show _ = 4 * bI ((pl p.t j 0).2.2.1 ≠ 0) by omega) ?_
                refine Z_ior 73 rfl ?_
                refine Z_ti (show _ = iI (crn p.t j) by unfold crn; rw [cif_t c5]; rcases f1 with y1 | y1 <;> rcases f2 with y2 | y2 <;> rcases f3 with y3 | y3 <;> rw [y1, y2, y3] <;> decide) ?_
                refine Z_iret 74 rfl rfl ⟨Nat.le_refl _, Nat.le_refl _⟩ ?_
                exact ⟨rfl, _, _, _, rfl⟩
            · refine Z_iconst 64 rfl ?_
              refine Z_goto 65 rfl (tgt := 118) rfl ?_
              refine Z_ci (show _ = 2 * bI ((pl p.t (pa p.t j) (p.t.2.1 (pa p.t j))).2.2.1 ≠ 0) by omega) ?_
              refine Z_ior 67 rfl ?_
              refine Z_ti (show _ = iI (bI (jpa p.t j 1 ≠ 0) + 2 * bI ((pl p.t (pa p.t j) (p.t.2.1 (pa p.t j))).2.2.1 ≠ 0)) by rcases f1 with y1 | y1 <;> rcases f2 with y2 | y2 <;> rw [y1, y2] <;> decide) ?_
              refine Z_iload 68 rfl rfl ?_
              refine Z_if_eq 69 rfl (tgt := 128) rfl (by omega) (fun c121 => ?_) (fun c121 => ?_)
              · refine Z_iconst 72 rfl ?_
                refine Z_ci (show _ = 4 * bI ((pl p.t j 0).2.2.1 ≠ 0) by omega) ?_
                refine Z_ior 73 rfl ?_
                refine Z_ti (show _ = iI (crn p.t j) by unfold crn; rw [cif_t c5]; rcases f1 with y1 | y1 <;> rcases f2 with y2 | y2 <;> rcases f3 with y3 | y3 <;> rw [y1, y2, y3] <;> decide) ?_
                refine Z_iret 74 rfl rfl ⟨Nat.le_refl _, Nat.le_refl _⟩ ?_
                exact ⟨rfl, _, _, _, rfl⟩
              · refine Z_iconst 70 rfl ?_
                refine Z_goto 71 rfl (tgt := 129) rfl ?_
                refine Z_ci (show _ = 4 * bI ((pl p.t j 0).2.2.1 ≠ 0) by omega) ?_
                refine Z_ior 73 rfl ?_
                refine Z_ti (show _ = iI (crn p.t j) by unfold crn; rw [cif_t c5]; rcases f1 with y1 | y1 <;> rcases f2 with y2 | y2 <;> rcases f3 with y3 | y3 <;> rw [y1, y2, y3] <;> decide) ?_
                refine Z_iret 74 rfl rfl ⟨Nat.le_refl _, Nat.le_refl _⟩ ?_
                exact ⟨rfl, _, _, _, rfl⟩
        · refine Z_iconst 53 rfl ?_
          refine Z_goto 54 rfl (tgt := 97) rfl ?_
          refine Z_ci (show _ = bI ((pl p.t j 0).2.2.1 ≠ 0) by first | rw [bI_t (by omega)] | rw [bI_f (by omega)]) ?_
          refine Z_istore 56 rfl (Nat.le_of_ble_eq_true rfl) (lv' := [(5, .int _), (4, .int _), (3, .int _), (2, .int _), (0, .ref _), (1, .int _)]) rfl ?_
          refine Z_iload_n 57 rfl rfl rfl ?_
          refine Z_if_eq 58 rfl (tgt := 107) rfl (by omega) (fun c100 => ?_) (fun c100 => ?_)
          · refine Z_iconst 61 rfl ?_
            refine Z_ci (show _ = bI (jpa p.t j 1 ≠ 0) by omega) ?_
            refine Z_iload 62 rfl rfl ?_
            refine Z_if_eq 63 rfl (tgt := 117) rfl (by omega) (fun c110 => ?_) (fun c110 => ?_)
            · refine Z_iconst 66 rfl ?_
              refine Z_ci (show _ = 2 * bI ((pl p.t (pa p.t j) (p.t.2.1 (pa p.t j))).2.2.1 ≠ 0) by omega) ?_
              refine Z_ior 67 rfl ?_
              refine Z_ti (show _ = iI (bI (jpa p.t j 1 ≠ 0) + 2 * bI ((pl p.t (pa p.t j) (p.t.2.1 (pa p.t j))).2.2.1 ≠ 0)) by rcases f1 with y1 | y1 <;> rcases f2 with y2 | y2 <;> rw [y1, y2] <;> decide) ?_
              refine Z_iload 68 rfl rfl ?_
              refine Z_if_eq 69 rfl (tgt := 128) rfl (by omega) (fun c121 => ?_) (fun c121 => ?_)
              · refine Z_iconst 72 rfl ?_
                refine Z_ci (show _ = 4 * bI ((pl p.t j 0).2.2.1 ≠ 0) by omega) ?_
                refine Z_ior 73 rfl ?_
                refine Z_ti (show _ = iI (crn p.t j) by unfold crn; rw [cif_t c5]; rcases f1 with y1 | y1 <;> rcases f2 with y2 | y2 <;> rcases f3 with y3 | y3 <;> rw [y1, y2, y3] <;> decide) ?_
                refine Z_iret 74 rfl rfl ⟨Nat.le_refl _, Nat.le_refl _⟩ ?_
                exact ⟨rfl, _, _, _, rfl⟩
              · refine Z_iconst 70 rfl ?_
                refine Z_goto 71 rfl (tgt := 129) rfl ?_
                refine Z_ci (show _ = 4 * bI ((pl p.t j 0).2.2.1 ≠ 0) by omega) ?_
                refine Z_ior 73 rfl ?_
                refine Z_ti (show _ = iI (crn p.t j) by unfold crn; rw [cif_t c5]; rcases f1 with y1 | y1 <;> rcases f2 with y2 | y2 <;> rcases f3 with y3 | y3 <;> rw [y1, y2, y3] <;> decide) ?_
                refine Z_iret 74 rfl rfl ⟨Nat.le_refl _, Nat.le_refl _⟩ ?_
                exact ⟨rfl, _, _, _, rfl⟩
            · refine Z_iconst 64 rfl ?_
              refine Z_goto 65 rfl (tgt := 118) rfl ?_
              refine Z_ci (show _ = 2 * bI ((pl p.t (pa p.t j) (p.t.2.1 (pa p.t j))).2.2.1 ≠ 0) by omega) ?_
              refine Z_ior 67 rfl ?_
              refine Z_ti (show _ = iI (bI (jpa p.t j 1 ≠ 0) + 2 * bI ((pl p.t (pa p.t j) (p.t.2.1 (pa p.t j))).2.2.1 ≠ 0)) by rcases f1 with y1 | y1 <;> rcases f2 with y2 | y2 <;> rw [y1, y2] <;> decide) ?_
              refine Z_iload 68 rfl rfl ?_
              refine Z_if_eq 69 rfl (tgt := 128) rfl (by omega) (fun c121 => ?_) (fun c121 => ?_)
              · refine Z_iconst 72 rfl ?_
                refine Z_ci (show _ = 4 * bI ((pl p.t j 0).2.2.1 ≠ 0) by omega) ?_
                refine Z_ior 73 rfl ?_
                refine Z_ti (show _ = iI (crn p.t j) by unfold crn; rw [cif_t c5]; rcases f1 with y1 | y1 <;> rcases f2 with y2 | y2 <;> rcases f3 with y3 | y3 <;> rw [y1, y2, y3] <;> decide) ?_
                refine Z_iret 74 rfl rfl ⟨Nat.le_refl _, Nat.le_refl _⟩ ?_
                exact ⟨rfl, _, _, _, rfl⟩
              · refine Z_iconst 70 rfl ?_
                refine Z_goto 71 rfl (tgt := 129) rfl ?_
                refine Z_ci (show _ = 4 * bI ((pl p.t j 0).2.2.1 ≠ 0) by omega) ?_
                refine Z_ior 73 rfl ?_
                refine Z_ti (show _ = iI (crn p.t j) by unfold crn; rw [cif_t c5]; rcases f1 with y1 | y1 <;> rcases f2 with y2 | y2 <;> rcases f3 with y3 | y3 <;> rw [y1, y2, y3] <;> decide) ?_
                refine Z_iret 74 rfl rfl ⟨Nat.le_refl _, Nat.le_refl _⟩ ?_
                exact ⟨rfl, _, _, _, rfl⟩
          · refine Z_iconst 59 rfl ?_
            refine Z_goto 60 rfl (tgt := 108) rfl ?_
            refine Z_ci (show _ = bI (jpa p.t j 1 ≠ 0) by omega) ?_
            refine Z_iload 62 rfl rfl ?_
            refine Z_if_eq 63 rfl (tgt := 117) rfl (by omega) (fun c110 => ?_) (fun c110 => ?_)
            · refine Z_iconst 66 rfl ?_
              refine Z_ci (show _ = 2 * bI ((pl p.t (pa p.t j) (p.t.2.1 (pa p.t j))).2.2.1 ≠ 0) by omega) ?_
              refine Z_ior 67 rfl ?_
              refine Z_ti (show _ = iI (bI (jpa p.t j 1 ≠ 0) + 2 * bI ((pl p.t (pa p.t j) (p.t.2.1 (pa p.t j))).2.2.1 ≠ 0)) by rcases f1 with y1 | y1 <;> rcases f2 with y2 | y2 <;> rw [y1, y2] <;> decide) ?_
              refine Z_iload 68 rfl rfl ?_
              refine Z_if_eq 69 rfl (tgt := 128) rfl (by omega) (fun c121 => ?_) (fun c121 => ?_)
              · refine Z_iconst 72 rfl ?_
                refine Z_ci (show _ = 4 * bI ((pl p.t j 0).2.2.1 ≠ 0) by omega) ?_
                refine Z_ior 73 rfl ?_
                refine Z_ti (show _ = iI (crn p.t j) by unfold crn; rw [cif_t c5]; rcases f1 with y1 | y1 <;> rcases f2 with y2 | y2 <;> rcases f3 with y3 | y3 <;> rw [y1, y2, y3] <;> decide) ?_
                refine Z_iret 74 rfl rfl ⟨Nat.le_refl _, Nat.le_refl _⟩ ?_
                exact ⟨rfl, _, _, _, rfl⟩
              · refine Z_iconst 70 rfl ?_
                refine Z_goto 71 rfl (tgt := 129) rfl ?_
                refine Z_ci (show _ = 4 * bI ((pl p.t j 0).2.2.1 ≠ 0) by omega) ?_
                refine Z_ior 73 rfl ?_
                refine Z_ti (show _ = iI (crn p.t j) by unfold crn; rw [cif_t c5]; rcases f1 with y1 | y1 <;> rcases f2 with y2 | y2 <;> rcases f3 with y3 | y3 <;> rw [y1, y2, y3] <;> decide) ?_
                refine Z_iret 74 rfl rfl ⟨Nat.le_refl _, Nat.le_refl _⟩ ?_
                exact ⟨rfl, _, _, _, rfl⟩
            · refine Z_iconst 64 rfl ?_
              refine Z_goto 65 rfl (tgt := 118) rfl ?_
              refine Z_ci (show _ = 2 * bI ((pl p.t (pa p.t j) (p.t.2.1 (pa p.t j))).2.2.1 ≠ 0) by omega) ?_
              refine Z_ior 67 rfl ?_
              refine Z_ti (show _ = iI (bI (jpa p.t j 1 ≠ 0) + 2 * bI ((pl p.t (pa p.t j) (p.t.2.1 (pa p.t j))).2.2.1 ≠ 0)) by rcases f1 with y1 | y1 <;> rcases f2 with y2 | y2 <;> rw [y1, y2] <;> decide) ?_
              refine Z_iload 68 rfl rfl ?_
              refine Z_if_eq 69 rfl (tgt := 128) rfl (by omega) (fun c121 => ?_) (fun c121 => ?_)
              · refine Z_iconst 72 rfl ?_
                refine Z_ci (show _ = 4 * bI ((pl p.t j 0).2.2.1 ≠ 0) by omega) ?_
                refine Z_ior 73 rfl ?_
                refine Z_ti (show _ = iI (crn p.t j) by unfold crn; rw [cif_t c5]; rcases f1 with y1 | y1 <;> rcases f2 with y2 | y2 <;> rcases f3 with y3 | y3 <;> rw [y1, y2, y3] <;> decide) ?_
                refine Z_iret 74 rfl rfl ⟨Nat.le_refl _, Nat.le_refl _⟩ ?_
                exact ⟨rfl, _, _, _, rfl⟩
              · refine Z_iconst 70 rfl ?_
                refine Z_goto 71 rfl (tgt := 129) rfl ?_
                refine Z_ci (show _ = 4 * bI ((pl p.t j 0).2.2.1 ≠ 0) by omega) ?_
                refine Z_ior 73 rfl ?_
                refine Z_ti (show _ = iI (crn p.t j) by unfold crn; rw [cif_t c5]; rcases f1 with y1 | y1 <;> rcases f2 with y2 | y2 <;> rcases f3 with y3 | y3 <;> rw [y1, y2, y3] <;> decide) ?_
                refine Z_iret 74 rfl rfl ⟨Nat.le_refl _, Nat.le_refl _⟩ ?_
                exact ⟨rfl, _, _, _, rfl⟩
    · refine Z_iconst 16 rfl ?_
      refine Z_goto 17 rfl (tgt := 33) rfl ?_
      refine Z_ci (show _ = bI (jpa p.t j 1 ≠ 0) by first | rw [bI_t (by omega)] | rw [bI_f (by omega)]) ?_
      refine Z_istore_n 19 rfl rfl (Nat.le_of_ble_eq_true rfl) (lv' := [(2, .int _), (0, .ref _), (1, .int _)]) rfl ?_
      refine Z_aload_n 20 rfl rfl rfl ?_
      refine Z_iload_n 21 rfl rfl rfl ?_
      refine Z_callVip (M' := M_C_pieceAhead) 22 isC rfl l_C_369 C_C_pieceAhead (c_C_pieceAhead l p rj _ w g _ _ sm co h j hi) (emC ..) (Or.inl ⟨_, _, _, _, rfl, rfl⟩) rfl rfl rfl (Nat.le_of_ble_eq_true rfl) ⟨rfl, rfl, Nat.le_of_ble_eq_true rfl, Nat.le_of_ble_eq_true rfl⟩ ⟨Nat.zero_le _, Nat.zero_le _⟩ ?_
      refine Z_istore_n 23 rfl rfl (Nat.le_of_ble_eq_true rfl) (lv' := [(3, .int _), (2, .int _), (0, .ref _), (1, .int _)]) rfl ?_
      refine Z_aload_n 24 rfl rfl rfl ?_
      refine Z_iload_n 25 rfl rfl rfl ?_
      refine Z_aload_n 26 rfl rfl rfl ?_
      refine Z_get 27 rfl f_C_14 rfl rfl ?_
      refine Z_iload_n 28 rfl rfl rfl ?_
      refine Z_callVip (M' := M_T_longOf) 29 [1, 2, 3, 4] rfl l_C_125 C_T_longOf (c_T_longOf l p.t (pa p.t j) (by omega)) ⟨by decide, (zEL.c (Or.inl rfl) (zEL.c (Or.inl rfl) (zEL.c (Or.inl rfl) (zEL.c (Or.inl rfl) zEL.n))))⟩ (Or.inl ⟨_, _, _, _, rfl, rfl⟩) rfl rfl rfl (Nat.le_of_ble_eq_true rfl) ⟨rfl, rfl, Nat.le_of_ble_eq_true rfl, Nat.le_of_ble_eq_true rfl⟩ ⟨Nat.zero_le _, Nat.zero_le _⟩ ?_
      refine Z_callVb (M' := M_C_standIn) 30 isC rfl l_C_362 C_C_standIn (c_C_standIn l p rj _ w g _ _ sm co h (pa p.t j) (p.t.2.1 (pa p.t j)) hj2 (by omega)) (emC ..) (Or.inl ⟨_, _, _, _, rfl, rfl⟩) rfl rfl rfl (Nat.le_of_ble_eq_true rfl) ⟨rfl, rfl, Nat.le_of_ble_eq_true rfl, Nat.le_of_ble_eq_true rfl⟩ ⟨Nat.zero_le _, Nat.zero_le _⟩ (fun out hq => ?_)
      obtain rfl := hq
      refine Z_mem (mgC ..) ?_
      refine Z_pop 31 rfl rfl ?_
      refine Z_aload_n 32 rfl rfl rfl ?_
      refine Z_get 33 rfl f_C_53 rfl rfl ?_
      refine Z_getN 34 rfl f_C_188 rfl rfl ?_
      refine Z_lconst 35 rfl ?_
      refine Z_lc_eq 36 rfl rfl (tgt := 70) rfl (by omega) (by omega) (fun c62 => ?_) (fun c62 => ?_)
      · refine Z_iconst 40 rfl ?_
        refine Z_ci (show _ = bI ((pl p.t (pa p.t j) (p.t.2.1 (pa p.t j))).2.2.1 ≠ 0) by first | rw [bI_t (by omega)] | rw [bI_f (by omega)]) ?_
        refine Z_istore 41 rfl (Nat.le_of_ble_eq_true rfl) (lv' := [(4, .int _), (3, .int _), (2, .int _), (0, .ref _), (1, .int _)]) rfl ?_
        refine Z_aload_n 42 rfl rfl rfl ?_
        refine Z_iload_n 43 rfl rfl rfl ?_
        refine Z_iconst 44 rfl ?_
        refine Z_callVb (M' := M_C_standIn) 45 isC rfl l_C_362 C_C_standIn (c_C_standIn l p rj _ w g _ _ sm co h j 0 hj1 (by omega)) (emC ..) (Or.inl ⟨_, _, _, _, rfl, rfl⟩) rfl rfl rfl (Nat.le_of_ble_eq_true rfl) ⟨rfl, rfl, Nat.le_of_ble_eq_true rfl, Nat.le_of_ble_eq_true rfl⟩ ⟨Nat.zero_le _, Nat.zero_le _⟩ (fun out hq => ?_)
        obtain rfl := hq
        refine Z_mem (mgC ..) ?_
        refine Z_pop 46 rfl rfl ?_
        refine Z_aload_n 47 rfl rfl rfl ?_
        refine Z_get 48 rfl f_C_53 rfl rfl ?_
        refine Z_getN 49 rfl f_C_188 rfl rfl ?_
        refine Z_lconst 50 rfl ?_
        refine Z_lc_eq 51 rfl rfl (tgt := 96) rfl (by omega) (by omega) (fun c88 => ?_) (fun c88 => ?_)
        · refine Z_iconst 55 rfl ?_
          refine Z_ci (show _ = bI ((pl p.t j 0).2.2.1 ≠ 0) by first | rw [bI_t (by omega)] | rw [bI_f (by omega)]) ?_
          refine Z_istore 56 rfl (Nat.le_of_ble_eq_true rfl) (lv' := [(5, .int _), (4, .int _), (3, .int _), (2, .int _), (0, .ref _), (1, .int _)]) rfl ?_
          refine Z_iload_n 57 rfl rfl rfl ?_
          refine Z_if_eq 58 rfl (tgt := 107) rfl (by omega) (fun c100 => ?_) (fun c100 => ?_)
          · refine Z_iconst 61 rfl ?_
            refine Z_ci (show _ = bI (jpa p.t j 1 ≠ 0) by omega) ?_
            refine Z_iload 62 rfl rfl ?_
            refine Z_if_eq 63 rfl (tgt := 117) rfl (by omega) (fun c110 => ?_) (fun c110 => ?_)
            · refine Z_iconst 66 rfl ?_
              refine Z_ci (show _ = 2 * bI ((pl p.t (pa p.t j) (p.t.2.1 (pa p.t j))).2.2.1 ≠ 0) by omega) ?_
              refine Z_ior 67 rfl ?_
              refine Z_ti (show _ = iI (bI (jpa p.t j 1 ≠ 0) + 2 * bI ((pl p.t (pa p.t j) (p.t.2.1 (pa p.t j))).2.2.1 ≠ 0)) by rcases f1 with y1 | y1 <;> rcases f2 with y2 | y2 <;> rw [y1, y2] <;> decide) ?_
              refine Z_iload 68 rfl rfl ?_
              refine Z_if_eq 69 rfl (tgt := 128) rfl (by omega) (fun c121 => ?_) (fun c121 => ?_)
              · refine Z_iconst 72 rfl ?_
                refine Z_ci (show _ = 4 * bI ((pl p.t j 0).2.2.1 ≠ 0) by omega) ?_
                refine Z_ior 73 rfl ?_
                refine Z_ti (show _ = iI (crn p.t j) by unfold crn; rw [cif_t c5]; rcases f1 with y1 | y1 <;> rcases f2 with y2 | y2 <;> rcases f3 with y3 | y3 <;> rw [y1, y2, y3] <;> decide) ?_
                refine Z_iret 74 rfl rfl ⟨Nat.le_refl _, Nat.le_refl _⟩ ?_
                exact ⟨rfl, _, _, _, rfl⟩
              · refine Z_iconst 70 rfl ?_
                refine Z_goto 71 rfl (tgt := 129) rfl ?_
                refine Z_ci (show _ = 4 * bI ((pl p.t j 0).2.2.1 ≠ 0) by omega) ?_
                refine Z_ior 73 rfl ?_
                refine Z_ti (show _ = iI (crn p.t j) by unfold crn; rw [cif_t c5]; rcases f1 with y1 | y1 <;> rcases f2 with y2 | y2 <;> rcases f3 with y3 | y3 <;> rw [y1, y2, y3] <;> decide) ?_
                refine Z_iret 74 rfl rfl ⟨Nat.le_refl _, Nat.le_refl _⟩ ?_
                exact ⟨rfl, _, _, _, rfl⟩
            · refine Z_iconst 64 rfl ?_
              refine Z_goto 65 rfl (tgt := 118) rfl ?_
              refine Z_ci (show _ = 2 * bI ((pl p.t (pa p.t j) (p.t.2.1 (pa p.t j))).2.2.1 ≠ 0) by omega) ?_
              refine Z_ior 67 rfl ?_
              refine Z_ti (show _ = iI (bI (jpa p.t j 1 ≠ 0) + 2 * bI ((pl p.t (pa p.t j) (p.t.2.1 (pa p.t j))).2.2.1 ≠ 0)) by rcases f1 with y1 | y1 <;> rcases f2 with y2 | y2 <;> rw [y1, y2] <;> decide) ?_
              refine Z_iload 68 rfl rfl ?_
              refine Z_if_eq 69 rfl (tgt := 128) rfl (by omega) (fun c121 => ?_) (fun c121 => ?_)
              · refine Z_iconst 72 rfl ?_
                refine Z_ci (show _ = 4 * bI ((pl p.t j 0).2.2.1 ≠ 0) by omega) ?_
                refine Z_ior 73 rfl ?_
                refine Z_ti (show _ = iI (crn p.t j) by unfold crn; rw [cif_t c5]; rcases f1 with y1 | y1 <;> rcases f2 with y2 | y2 <;> rcases f3 with y3 | y3 <;> rw [y1, y2, y3] <;> decide) ?_
                refine Z_iret 74 rfl rfl ⟨Nat.le_refl _, Nat.le_refl _⟩ ?_
                exact ⟨rfl, _, _, _, rfl⟩
              · refine Z_iconst 70 rfl ?_
                refine Z_goto 71 rfl (tgt := 129) rfl ?_
                refine Z_ci (show _ = 4 * bI ((pl p.t j 0).2.2.1 ≠ 0) by omega) ?_
                refine Z_ior 73 rfl ?_
                refine Z_ti (show _ = iI (crn p.t j) by unfold crn; rw [cif_t c5]; rcases f1 with y1 | y1 <;> rcases f2 with y2 | y2 <;> rcases f3 with y3 | y3 <;> rw [y1, y2, y3] <;> decide) ?_
                refine Z_iret 74 rfl rfl ⟨Nat.le_refl _, Nat.le_refl _⟩ ?_
                exact ⟨rfl, _, _, _, rfl⟩
          · refine Z_iconst 59 rfl ?_
            refine Z_goto 60 rfl (tgt := 108) rfl ?_
            refine Z_ci (show _ = bI (jpa p.t j 1 ≠ 0) by omega) ?_
            refine Z_iload 62 rfl rfl ?_
            refine Z_if_eq 63 rfl (tgt := 117) rfl (by omega) (fun c110 => ?_) (fun c110 => ?_)
            · refine Z_iconst 66 rfl ?_
              refine Z_ci (show _ = 2 * bI ((pl p.t (pa p.t j) (p.t.2.1 (pa p.t j))).2.2.1 ≠ 0) by omega) ?_
              refine Z_ior 67 rfl ?_
              refine Z_ti (show _ = iI (bI (jpa p.t j 1 ≠ 0) + 2 * bI ((pl p.t (pa p.t j) (p.t.2.1 (pa p.t j))).2.2.1 ≠ 0)) by rcases f1 with y1 | y1 <;> rcases f2 with y2 | y2 <;> rw [y1, y2] <;> decide) ?_
              refine Z_iload 68 rfl rfl ?_
              refine Z_if_eq 69 rfl (tgt := 128) rfl (by omega) (fun c121 => ?_) (fun c121 => ?_)
              · refine Z_iconst 72 rfl ?_
                refine Z_ci (show _ = 4 * bI ((pl p.t j 0).2.2.1 ≠ 0) by omega) ?_
                refine Z_ior 73 rfl ?_
                refine Z_ti (show _ = iI (crn p.t j) by unfold crn; rw [cif_t c5]; rcases f1 with y1 | y1 <;> rcases f2 with y2 | y2 <;> rcases f3 with y3 | y3 <;> rw [y1, y2, y3] <;> decide) ?_
                refine Z_iret 74 rfl rfl ⟨Nat.le_refl _, Nat.le_refl _⟩ ?_
                exact ⟨rfl, _, _, _, rfl⟩
              · refine Z_iconst 70 rfl ?_
                refine Z_goto 71 rfl (tgt := 129) rfl ?_
                refine Z_ci (show _ = 4 * bI ((pl p.t j 0).2.2.1 ≠ 0) by omega) ?_
                refine Z_ior 73 rfl ?_
                refine Z_ti (show _ = iI (crn p.t j) by unfold crn; rw [cif_t c5]; rcases f1 with y1 | y1 <;> rcases f2 with y2 | y2 <;> rcases f3 with y3 | y3 <;> rw [y1, y2, y3] <;> decide) ?_
                refine Z_iret 74 rfl rfl ⟨Nat.le_refl _, Nat.le_refl _⟩ ?_
                exact ⟨rfl, _, _, _, rfl⟩
            · refine Z_iconst 64 rfl ?_
              refine Z_goto 65 rfl (tgt := 118) rfl ?_
              refine Z_ci (show _ = 2 * bI ((pl p.t (pa p.t j) (p.t.2.1 (pa p.t j))).2.2.1 ≠ 0) by omega) ?_
              refine Z_ior 67 rfl ?_
              refine Z_ti (show _ = iI (bI (jpa p.t j 1 ≠ 0) + 2 * bI ((pl p.t (pa p.t j) (p.t.2.1 (pa p.t j))).2.2.1 ≠ 0)) by rcases f1 with y1 | y1 <;> rcases f2 with y2 | y2 <;> rw [y1, y2] <;> decide) ?_
              refine Z_iload 68 rfl rfl ?_
              refine Z_if_eq 69 rfl (tgt := 128) rfl (by omega) (fun c121 => ?_) (fun c121 => ?_)
              · refine Z_iconst 72 rfl ?_
                refine Z_ci (show _ = 4 * bI ((pl p.t j 0).2.2.1 ≠ 0) by omega) ?_
                refine Z_ior 73 rfl ?_
                refine Z_ti (show _ = iI (crn p.t j) by unfold crn; rw [cif_t c5]; rcases f1 with y1 | y1 <;> rcases f2 with y2 | y2 <;> rcases f3 with y3 | y3 <;> rw [y1, y2, y3] <;> decide) ?_
                refine Z_iret 74 rfl rfl ⟨Nat.le_refl _, Nat.le_refl _⟩ ?_
                exact ⟨rfl, _, _, _, rfl⟩
              · refine Z_iconst 70 rfl ?_
                refine Z_goto 71 rfl (tgt := 129) rfl ?_
                refine Z_ci (show _ = 4 * bI ((pl p.t j 0).2.2.1 ≠ 0) by omega) ?_
                refine Z_ior 73 rfl ?_
                refine Z_ti (show _ = iI (crn p.t j) by unfold crn; rw [cif_t c5]; rcases f1 with y1 | y1 <;> rcases f2 with y2 | y2 <;> rcases f3 with y3 | y3 <;> rw [y1, y2, y3] <;> decide) ?_
                refine Z_iret 74 rfl rfl ⟨Nat.le_refl _, Nat.le_refl _⟩ ?_
                exact ⟨rfl, _, _, _, rfl⟩
        · refine Z_iconst 53 rfl ?_
          refine Z_goto 54 rfl (tgt := 97) rfl ?_
          refine Z_ci (show _ = bI ((pl p.t j 0).2.2.1 ≠ 0) by first | rw [bI_t (by omega)] | rw [bI_f (by omega)]) ?_
          refine Z_istore 56 rfl (Nat.le_of_ble_eq_true rfl) (lv' := [(5, .int _), (4, .int _), (3, .int _), (2, .int _), (0, .ref _), (1, .int _)]) rfl ?_
          refine Z_iload_n 57 rfl rfl rfl ?_
          refine Z_if_eq 58 rfl (tgt := 107) rfl (by omega) (fun c100 => ?_) (fun c100 => ?_)
          · refine Z_iconst 61 rfl ?_
            refine Z_ci (show _ = bI (jpa p.t j 1 ≠ 0) by omega) ?_
            refine Z_iload 62 rfl rfl ?_
            refine Z_if_eq 63 rfl (tgt := 117) rfl (by omega) (fun c110 => ?_) (fun c110 => ?_)
            · refine Z_iconst 66 rfl ?_
              refine Z_ci (show _ = 2 * bI ((pl p.t (pa p.t j) (p.t.2.1 (pa p.t j))).2.2.1 ≠ 0) by omega) ?_
              refine Z_ior 67 rfl ?_
              refine Z_ti (show _ = iI (bI (jpa p.t j 1 ≠ 0) + 2 * bI ((pl p.t (pa p.t j) (p.t.2.1 (pa p.t j))).2.2.1 ≠ 0)) by rcases f1 with y1 | y1 <;> rcases f2 with y2 | y2 <;> rw [y1, y2] <;> decide) ?_
              refine Z_iload 68 rfl rfl ?_
              refine Z_if_eq 69 rfl (tgt := 128) rfl (by omega) (fun c121 => ?_) (fun c121 => ?_)
              · refine Z_iconst 72 rfl ?_
                refine Z_ci (show _ = 4 * bI ((pl p.t j 0).2.2.1 ≠ 0) by omega) ?_
                refine Z_ior 73 rfl ?_
                refine Z_ti (show _ = iI (crn p.t j) by unfold crn; rw [cif_t c5]; rcases f1 with y1 | y1 <;> rcases f2 with y2 | y2 <;> rcases f3 with y3 | y3 <;> rw [y1, y2, y3] <;> decide) ?_
                refine Z_iret 74 rfl rfl ⟨Nat.le_refl _, Nat.le_refl _⟩ ?_
                exact ⟨rfl, _, _, _, rfl⟩
              · refine Z_iconst 70 rfl ?_
                refine Z_goto 71 rfl (tgt := 129) rfl ?_
                refine Z_ci (show _ = 4 * bI ((pl p.t j 0).2.2.1 ≠ 0) by omega) ?_
                refine Z_ior 73 rfl ?_
                refine Z_ti (show _ = iI (crn p.t j) by unfold crn; rw [cif_t c5]; rcases f1 with y1 | y1 <;> rcases f2 with y2 | y2 <;> rcases f3 with y3 | y3 <;> rw [y1, y2, y3] <;> decide) ?_
                refine Z_iret 74 rfl rfl ⟨Nat.le_refl _, Nat.le_refl _⟩ ?_
                exact ⟨rfl, _, _, _, rfl⟩
            · refine Z_iconst 64 rfl ?_
              refine Z_goto 65 rfl (tgt := 118) rfl ?_
              refine Z_ci (show _ = 2 * bI ((pl p.t (pa p.t j) (p.t.2.1 (pa p.t j))).2.2.1 ≠ 0) by omega) ?_
              refine Z_ior 67 rfl ?_
              refine Z_ti (show _ = iI (bI (jpa p.t j 1 ≠ 0) + 2 * bI ((pl p.t (pa p.t j) (p.t.2.1 (pa p.t j))).2.2.1 ≠ 0)) by rcases f1 with y1 | y1 <;> rcases f2 with y2 | y2 <;> rw [y1, y2] <;> decide) ?_
              refine Z_iload 68 rfl rfl ?_
              refine Z_if_eq 69 rfl (tgt := 128) rfl (by omega) (fun c121 => ?_) (fun c121 => ?_)
              · refine Z_iconst 72 rfl ?_
                refine Z_ci (show _ = 4 * bI ((pl p.t j 0).2.2.1 ≠ 0) by omega) ?_
                refine Z_ior 73 rfl ?_
                refine Z_ti (show _ = iI (crn p.t j) by unfold crn; rw [cif_t c5]; rcases f1 with y1 | y1 <;> rcases f2 with y2 | y2 <;> rcases f3 with y3 | y3 <;> rw [y1, y2, y3] <;> decide) ?_
                refine Z_iret 74 rfl rfl ⟨Nat.le_refl _, Nat.le_refl _⟩ ?_
                exact ⟨rfl, _, _, _, rfl⟩
              · refine Z_iconst 70 rfl ?_
                refine Z_goto 71 rfl (tgt := 129) rfl ?_
                refine Z_ci (show _ = 4 * bI ((pl p.t j 0).2.2.1 ≠ 0) by omega) ?_
                refine Z_ior 73 rfl ?_
                refine Z_ti (show _ = iI (crn p.t j) by unfold crn; rw [cif_t c5]; rcases f1 with y1 | y1 <;> rcases f2 with y2 | y2 <;> rcases f3 with y3 | y3 <;> rw [y1, y2, y3] <;> decide) ?_
                refine Z_iret 74 rfl rfl ⟨Nat.le_refl _, Nat.le_refl _⟩ ?_
                exact ⟨rfl, _, _, _, rfl⟩
          · refine Z_iconst 59 rfl ?_
            refine Z_goto 60 rfl (tgt := 108) rfl ?_
            refine Z_ci (show _ = bI (jpa p.t j 1 ≠ 0) by omega) ?_
            refine Z_iload 62 rfl rfl ?_
            refine Z_if_eq 63 rfl (tgt := 117) rfl (by omega) (fun c110 => ?_) (fun c110 => ?_)
            · refine Z_iconst 66 rfl ?_
              refine Z_ci (show _ = 2 * bI ((pl p.t (pa p.t j) (p.t.2.1 (pa p.t j))).2.2.1 ≠ 0) by omega) ?_
              refine Z_ior 67 rfl ?_
              refine Z_ti (show _ = iI (bI (jpa p.t j 1 ≠ 0) + 2 * bI ((pl p.t (pa p.t j) (p.t.2.1 (pa p.t j))).2.2.1 ≠ 0)) by rcases f1 with y1 | y1 <;> rcases f2 with y2 | y2 <;> rw [y1, y2] <;> decide) ?_
              refine Z_iload 68 rfl rfl ?_
              refine Z_if_eq 69 rfl (tgt := 128) rfl (by omega) (fun c121 => ?_) (fun c121 => ?_)
              · refine Z_iconst 72 rfl ?_
                refine Z_ci (show _ = 4 * bI ((pl p.t j 0).2.2.1 ≠ 0) by omega) ?_
                refine Z_ior 73 rfl ?_
                refine Z_ti (show _ = iI (crn p.t j) by unfold crn; rw [cif_t c5]; rcases f1 with y1 | y1 <;> rcases f2 with y2 | y2 <;> rcases f3 with y3 | y3 <;> rw [y1, y2, y3] <;> decide) ?_
                refine Z_iret 74 rfl rfl ⟨Nat.le_refl _, Nat.le_refl _⟩ ?_
                exact ⟨rfl, _, _, _, rfl⟩
              · refine Z_iconst 70 rfl ?_
                refine Z_goto 71 rfl (tgt := 129) rfl ?_
                refine Z_ci (show _ = 4 * bI ((pl p.t j 0).2.2.1 ≠ 0) by omega) ?_
                refine Z_ior 73 rfl ?_
                refine Z_ti (show _ = iI (crn p.t j) by unfold crn; rw [cif_t c5]; rcases f1 with y1 | y1 <;> rcases f2 with y2 | y2 <;> rcases f3 with y3 | y3 <;> rw [y1, y2, y3] <;> decide) ?_
                refine Z_iret 74 rfl rfl ⟨Nat.le_refl _, Nat.le_refl _⟩ ?_
                exact ⟨rfl, _, _, _, rfl⟩
            · refine Z_iconst 64 rfl ?_
              refine Z_goto 65 rfl (tgt := 118) rfl ?_
              refine Z_ci (show _ = 2 * bI ((pl p.t (pa p.t j) (p.t.2.1 (pa p.t j))).2.2.1 ≠ 0) by omega) ?_
              refine Z_ior 67 rfl ?_
              refine Z_ti (show _ = iI (bI (jpa p.t j 1 ≠ 0) + 2 * bI ((pl p.t (pa p.t j) (p.t.2.1 (pa p.t j))).2.2.1 ≠ 0)) by rcases f1 with y1 | y1 <;> rcases f2 with y2 | y2 <;> rw [y1, y2] <;> decide) ?_
              refine Z_iload 68 rfl rfl ?_
              refine Z_if_eq 69 rfl (tgt := 128) rfl (by omega) (fun c121 => ?_) (fun c121 => ?_)
              · refine Z_iconst 72 rfl ?_
                refine Z_ci (show _ = 4 * bI ((pl p.t j 0).2.2.1 ≠ 0) by omega) ?_
                refine Z_ior 73 rfl ?_
                refine Z_ti (show _ = iI (crn p.t j) by unfold crn; rw [cif_t c5]; rcases f1 with y1 | y1 <;> rcases f2 with y2 | y2 <;> rcases f3 with y3 | y3 <;> rw [y1, y2, y3] <;> decide) ?_
                refine Z_iret 74 rfl rfl ⟨Nat.le_refl _, Nat.le_refl _⟩ ?_
                exact ⟨rfl, _, _, _, rfl⟩
              · refine Z_iconst 70 rfl ?_
                refine Z_goto 71 rfl (tgt := 129) rfl ?_
                refine Z_ci (show _ = 4 * bI ((pl p.t j 0).2.2.1 ≠ 0) by omega) ?_
                refine Z_ior 73 rfl ?_
                refine Z_ti (show _ = iI (crn p.t j) by unfold crn; rw [cif_t c5]; rcases f1 with y1 | y1 <;> rcases f2 with y2 | y2 <;> rcases f3 with y3 | y3 <;> rw [y1, y2, y3] <;> decide) ?_
                refine Z_iret 74 rfl rfl ⟨Nat.le_refl _, Nat.le_refl _⟩ ?_
                exact ⟨rfl, _, _, _, rfl⟩
      · refine Z_iconst 38 rfl ?_
        refine Z_goto 39 rfl (tgt := 71) rfl ?_
        refine Z_ci (show _ = bI ((pl p.t (pa p.t j) (p.t.2.1 (pa p.t j))).2.2.1 ≠ 0) by first | rw [bI_t (by omega)] | rw [bI_f (by omega)]) ?_
        refine Z_istore 41 rfl (Nat.le_of_ble_eq_true rfl) (lv' := [(4, .int _), (3, .int _), (2, .int _), (0, .ref _), (1, .int _)]) rfl ?_
        refine Z_aload_n 42 rfl rfl rfl ?_
        refine Z_iload_n 43 rfl rfl rfl ?_
        refine Z_iconst 44 rfl ?_
        refine Z_callVb (M' := M_C_standIn) 45 isC rfl l_C_362 C_C_standIn (c_C_standIn l p rj _ w g _ _ sm co h j 0 hj1 (by omega)) (emC ..) (Or.inl ⟨_, _, _, _, rfl, rfl⟩) rfl rfl rfl (Nat.le_of_ble_eq_true rfl) ⟨rfl, rfl, Nat.le_of_ble_eq_true rfl, Nat.le_of_ble_eq_true rfl⟩ ⟨Nat.zero_le _, Nat.zero_le _⟩ (fun out hq => ?_)
        obtain rfl := hq
        refine Z_mem (mgC ..) ?_
        refine Z_pop 46 rfl rfl ?_
        refine Z_aload_n 47 rfl rfl rfl ?_
        refine Z_get 48 rfl f_C_53 rfl rfl ?_
        refine Z_getN 49 rfl f_C_188 rfl rfl ?_
        refine Z_lconst 50 rfl ?_
        refine Z_lc_eq 51 rfl rfl (tgt := 96) rfl (by omega) (by omega) (fun c88 => ?_) (fun c88 => ?_)
        · refine Z_iconst 55 rfl ?_
          refine Z_ci (show _ = bI ((pl p.t j 0).2.2.1 ≠ 0) by first | rw [bI_t (by omega)] | rw [bI_f (by omega)]) ?_
          refine Z_istore 56 rfl (Nat.le_of_ble_eq_true rfl) (lv' := [(5, .int _), (4, .int _), (3, .int _), (2, .int _), (0, .ref _), (1, .int _)]) rfl ?_
          refine Z_iload_n 57 rfl rfl rfl ?_
          refine Z_if_eq 58 rfl (tgt := 107) rfl (by omega) (fun c100 => ?_) (fun c100 => ?_)
          · refine Z_iconst 61 rfl ?_
            refine Z_ci (show _ = bI (jpa p.t j 1 ≠ 0) by omega) ?_
            refine Z_iload 62 rfl rfl ?_
            refine Z_if_eq 63 rfl (tgt := 117) rfl (by omega) (fun c110 => ?_) (fun c110 => ?_)
            · refine Z_iconst 66 rfl ?_
              refine Z_ci (show _ = 2 * bI ((pl p.t (pa p.t j) (p.t.2.1 (pa p.t j))).2.2.1 ≠ 0) by omega) ?_
              refine Z_ior 67 rfl ?_
              refine Z_ti (show _ = iI (bI (jpa p.t j 1 ≠ 0) + 2 * bI ((pl p.t (pa p.t j) (p.t.2.1 (pa p.t j))).2.2.1 ≠ 0)) by rcases f1 with y1 | y1 <;> rcases f2 with y2 | y2 <;> rw [y1, y2] <;> decide) ?_
              refine Z_iload 68 rfl rfl ?_
              refine Z_if_eq 69 rfl (tgt := 128) rfl (by omega) (fun c121 => ?_) (fun c121 => ?_)
              · refine Z_iconst 72 rfl ?_
                refine Z_ci (show _ = 4 * bI ((pl p.t j 0).2.2.1 ≠ 0) by omega) ?_
                refine Z_ior 73 rfl ?_
                refine Z_ti (show _ = iI (crn p.t j) by unfold crn; rw [cif_t c5]; rcases f1 with y1 | y1 <;> rcases f2 with y2 | y2 <;> rcases f3 with y3 | y3 <;> rw [y1, y2, y3] <;> decide) ?_
                refine Z_iret 74 rfl rfl ⟨Nat.le_refl _, Nat.le_refl _⟩ ?_
                exact ⟨rfl, _, _, _, rfl⟩
              · refine Z_iconst 70 rfl ?_
                refine Z_goto 71 rfl (tgt := 129) rfl ?_
                refine Z_ci (show _ = 4 * bI ((pl p.t j 0).2.2.1 ≠ 0) by omega) ?_
                refine Z_ior 73 rfl ?_
                refine Z_ti (show _ = iI (crn p.t j) by unfold crn; rw [cif_t c5]; rcases f1 with y1 | y1 <;> rcases f2 with y2 | y2 <;> rcases f3 with y3 | y3 <;> rw [y1, y2, y3] <;> decide) ?_
                refine Z_iret 74 rfl rfl ⟨Nat.le_refl _, Nat.le_refl _⟩ ?_
                exact ⟨rfl, _, _, _, rfl⟩
            · refine Z_iconst 64 rfl ?_
              refine Z_goto 65 rfl (tgt := 118) rfl ?_
              refine Z_ci (show _ = 2 * bI ((pl p.t (pa p.t j) (p.t.2.1 (pa p.t j))).2.2.1 ≠ 0) by omega) ?_
              refine Z_ior 67 rfl ?_
              refine Z_ti (show _ = iI (bI (jpa p.t j 1 ≠ 0) + 2 * bI ((pl p.t (pa p.t j) (p.t.2.1 (pa p.t j))).2.2.1 ≠ 0)) by rcases f1 with y1 | y1 <;> rcases f2 with y2 | y2 <;> rw [y1, y2] <;> decide) ?_
              refine Z_iload 68 rfl rfl ?_
              refine Z_if_eq 69 rfl (tgt := 128) rfl (by omega) (fun c121 => ?_) (fun c121 => ?_)
              · refine Z_iconst 72 rfl ?_
                refine Z_ci (show _ = 4 * bI ((pl p.t j 0).2.2.1 ≠ 0) by omega) ?_
                refine Z_ior 73 rfl ?_
                refine Z_ti (show _ = iI (crn p.t j) by unfold crn; rw [cif_t c5]; rcases f1 with y1 | y1 <;> rcases f2 with y2 | y2 <;> rcases f3 with y3 | y3 <;> rw [y1, y2, y3] <;> decide) ?_
                refine Z_iret 74 rfl rfl ⟨Nat.le_refl _, Nat.le_refl _⟩ ?_
                exact ⟨rfl, _, _, _, rfl⟩
              · refine Z_iconst 70 rfl ?_
                refine Z_goto 71 rfl (tgt := 129) rfl ?_
                refine Z_ci (show _ = 4 * bI ((pl p.t j 0).2.2.1 ≠ 0) by omega) ?_
                refine Z_ior 73 rfl ?_
                refine Z_ti (show _ = iI (crn p.t j) by unfold crn; rw [cif_t c5]; rcases f1 with y1 | y1 <;> rcases f2 with y2 | y2 <;> rcases f3 with y3 | y3 <;> rw [y1, y2, y3] <;> decide) ?_
                refine Z_iret 74 rfl rfl ⟨Nat.le_refl _, Nat.le_refl _⟩ ?_
                exact ⟨rfl, _, _, _, rfl⟩
          · refine Z_iconst 59 rfl ?_
            refine Z_goto 60 rfl (tgt := 108) rfl ?_
            refine Z_ci (show _ = bI (jpa p.t j 1 ≠ 0) by omega) ?_
            refine Z_iload 62 rfl rfl ?_
            refine Z_if_eq 63 rfl (tgt := 117) rfl (by omega) (fun c110 => ?_) (fun c110 => ?_)
            · refine Z_iconst 66 rfl ?_
              refine Z_ci (show _ = 2 * bI ((pl p.t (pa p.t j) (p.t.2.1 (pa p.t j))).2.2.1 ≠ 0) by omega) ?_
              refine Z_ior 67 rfl ?_
              refine Z_ti (show _ = iI (bI (jpa p.t j 1 ≠ 0) + 2 * bI ((pl p.t (pa p.t j) (p.t.2.1 (pa p.t j))).2.2.1 ≠ 0)) by rcases f1 with y1 | y1 <;> rcases f2 with y2 | y2 <;> rw [y1, y2] <;> decide) ?_
              refine Z_iload 68 rfl rfl ?_
              refine Z_if_eq 69 rfl (tgt := 128) rfl (by omega) (fun c121 => ?_) (fun c121 => ?_)
              · refine Z_iconst 72 rfl ?_
                refine Z_ci (show _ = 4 * bI ((pl p.t j 0).2.2.1 ≠ 0) by omega) ?_
                refine Z_ior 73 rfl ?_
                refine Z_ti (show _ = iI (crn p.t j) by unfold crn; rw [cif_t c5]; rcases f1 with y1 | y1 <;> rcases f2 with y2 | y2 <;> rcases f3 with y3 | y3 <;> rw [y1, y2, y3] <;> decide) ?_
                refine Z_iret 74 rfl rfl ⟨Nat.le_refl _, Nat.le_refl _⟩ ?_
                exact ⟨rfl, _, _, _, rfl⟩
              · refine Z_iconst 70 rfl ?_
                refine Z_goto 71 rfl (tgt := 129) rfl ?_
                refine Z_ci (show _ = 4 * bI ((pl p.t j 0).2.2.1 ≠ 0) by omega) ?_
                refine Z_ior 73 rfl ?_
                refine Z_ti (show _ = iI (crn p.t j) by unfold crn; rw [cif_t c5]; rcases f1 with y1 | y1 <;> rcases f2 with y2 | y2 <;> rcases f3 with y3 | y3 <;> rw [y1, y2, y3] <;> decide) ?_
                refine Z_iret 74 rfl rfl ⟨Nat.le_refl _, Nat.le_refl _⟩ ?_
                exact ⟨rfl, _, _, _, rfl⟩
            · refine Z_iconst 64 rfl ?_
              refine Z_goto 65 rfl (tgt := 118) rfl ?_
              refine Z_ci (show _ = 2 * bI ((pl p.t (pa p.t j) (p.t.2.1 (pa p.t j))).2.2.1 ≠ 0) by omega) ?_
              refine Z_ior 67 rfl ?_
              refine Z_ti (show _ = iI (bI (jpa p.t j 1 ≠ 0) + 2 * bI ((pl p.t (pa p.t j) (p.t.2.1 (pa p.t j))).2.2.1 ≠ 0)) by rcases f1 with y1 | y1 <;> rcases f2 with y2 | y2 <;> rw [y1, y2] <;> decide) ?_
              refine Z_iload 68 rfl rfl ?_
              refine Z_if_eq 69 rfl (tgt := 128) rfl (by omega) (fun c121 => ?_) (fun c121 => ?_)
              · refine Z_iconst 72 rfl ?_
                refine Z_ci (show _ = 4 * bI ((pl p.t j 0).2.2.1 ≠ 0) by omega) ?_
                refine Z_ior 73 rfl ?_
                refine Z_ti (show _ = iI (crn p.t j) by unfold crn; rw [cif_t c5]; rcases f1 with y1 | y1 <;> rcases f2 with y2 | y2 <;> rcases f3 with y3 | y3 <;> rw [y1, y2, y3] <;> decide) ?_
                refine Z_iret 74 rfl rfl ⟨Nat.le_refl _, Nat.le_refl _⟩ ?_
                exact ⟨rfl, _, _, _, rfl⟩
              · refine Z_iconst 70 rfl ?_
                refine Z_goto 71 rfl (tgt := 129) rfl ?_
                refine Z_ci (show _ = 4 * bI ((pl p.t j 0).2.2.1 ≠ 0) by omega) ?_
                refine Z_ior 73 rfl ?_
                refine Z_ti (show _ = iI (crn p.t j) by unfold crn; rw [cif_t c5]; rcases f1 with y1 | y1 <;> rcases f2 with y2 | y2 <;> rcases f3 with y3 | y3 <;> rw [y1, y2, y3] <;> decide) ?_
                refine Z_iret 74 rfl rfl ⟨Nat.le_refl _, Nat.le_refl _⟩ ?_
                exact ⟨rfl, _, _, _, rfl⟩
        · refine Z_iconst 53 rfl ?_
          refine Z_goto 54 rfl (tgt := 97) rfl ?_
          refine Z_ci (show _ = bI ((pl p.t j 0).2.2.1 ≠ 0) by first | rw [bI_t (by omega)] | rw [bI_f (by omega)]) ?_
          refine Z_istore 56 rfl (Nat.le_of_ble_eq_true rfl) (lv' := [(5, .int _), (4, .int _), (3, .int _), (2, .int _), (0, .ref _), (1, .int _)]) rfl ?_
          refine Z_iload_n 57 rfl rfl rfl ?_
          refine Z_if_eq 58 rfl (tgt := 107) rfl (by omega) (fun c100 => ?_) (fun c100 => ?_)
          · refine Z_iconst 61 rfl ?_
            refine Z_ci (show _ = bI (jpa p.t j 1 ≠ 0) by omega) ?_
            refine Z_iload 62 rfl rfl ?_
            refine Z_if_eq 63 rfl (tgt := 117) rfl (by omega) (fun c110 => ?_) (fun c110 => ?_)
            · refine Z_iconst 66 rfl ?_
              refine Z_ci (show _ = 2 * bI ((pl p.t (pa p.t j) (p.t.2.1 (pa p.t j))).2.2.1 ≠ 0) by omega) ?_
              refine Z_ior 67 rfl ?_
              refine Z_ti (show _ = iI (bI (jpa p.t j 1 ≠ 0) + 2 * bI ((pl p.t (pa p.t j) (p.t.2.1 (pa p.t j))).2.2.1 ≠ 0)) by rcases f1 with y1 | y1 <;> rcases f2 with y2 | y2 <;> rw [y1, y2] <;> decide) ?_
              refine Z_iload 68 rfl rfl ?_
              refine Z_if_eq 69 rfl (tgt := 128) rfl (by omega) (fun c121 => ?_) (fun c121 => ?_)
              · refine Z_iconst 72 rfl ?_
                refine Z_ci (show _ = 4 * bI ((pl p.t j 0).2.2.1 ≠ 0) by omega) ?_
                refine Z_ior 73 rfl ?_
                refine Z_ti (show _ = iI (crn p.t j) by unfold crn; rw [cif_t c5]; rcases f1 with y1 | y1 <;> rcases f2 with y2 | y2 <;> rcases f3 with y3 | y3 <;> rw [y1, y2, y3] <;> decide) ?_
                refine Z_iret 74 rfl rfl ⟨Nat.le_refl _, Nat.le_refl _⟩ ?_
                exact ⟨rfl, _, _, _, rfl⟩
              · refine Z_iconst 70 rfl ?_
                refine Z_goto 71 rfl (tgt := 129) rfl ?_
                refine Z_ci (show _ = 4 * bI ((pl p.t j 0).2.2.1 ≠ 0) by omega) ?_
                refine Z_ior 73 rfl ?_
                refine Z_ti (show _ = iI (crn p.t j) by unfold crn; rw [cif_t c5]; rcases f1 with y1 | y1 <;> rcases f2 with y2 | y2 <;> rcases f3 with y3 | y3 <;> rw [y1, y2, y3] <;> decide) ?_
                refine Z_iret 74 rfl rfl ⟨Nat.le_refl _, Nat.le_refl _⟩ ?_
                exact ⟨rfl, _, _, _, rfl⟩
            · refine Z_iconst 64 rfl ?_
              refine Z_goto 65 rfl (tgt := 118) rfl ?_
              refine Z_ci (show _ = 2 * bI ((pl p.t (pa p.t j) (p.t.2.1 (pa p.t j))).2.2.1 ≠ 0) by omega) ?_
              refine Z_ior 67 rfl ?_
              refine Z_ti (show _ = iI (bI (jpa p.t j 1 ≠ 0) + 2 * bI ((pl p.t (pa p.t j) (p.t.2.1 (pa p.t j))).2.2.1 ≠ 0)) by rcases f1 with y1 | y1 <;> rcases f2 with y2 | y2 <;> rw [y1, y2] <;> decide) ?_
              refine Z_iload 68 rfl rfl ?_
              refine Z_if_eq 69 rfl (tgt := 128) rfl (by omega) (fun c121 => ?_) (fun c121 => ?_)
              · refine Z_iconst 72 rfl ?_
                refine Z_ci (show _ = 4 * bI ((pl p.t j 0).2.2.1 ≠ 0) by omega) ?_
                refine Z_ior 73 rfl ?_
                refine Z_ti (show _ = iI (crn p.t j) by unfold crn; rw [cif_t c5]; rcases f1 with y1 | y1 <;> rcases f2 with y2 | y2 <;> rcases f3 with y3 | y3 <;> rw [y1, y2, y3] <;> decide) ?_
                refine Z_iret 74 rfl rfl ⟨Nat.le_refl _, Nat.le_refl _⟩ ?_
                exact ⟨rfl, _, _, _, rfl⟩
              · refine Z_iconst 70 rfl ?_
                refine Z_goto 71 rfl (tgt := 129) rfl ?_
                refine Z_ci (show _ = 4 * bI ((pl p.t j 0).2.2.1 ≠ 0) by omega) ?_
                refine Z_ior 73 rfl ?_
                refine Z_ti (show _ = iI (crn p.t j) by unfold crn; rw [cif_t c5]; rcases f1 with y1 | y1 <;> rcases f2 with y2 | y2 <;> rcases f3 with y3 | y3 <;> rw [y1, y2, y3] <;> decide) ?_
                refine Z_iret 74 rfl rfl ⟨Nat.le_refl _, Nat.le_refl _⟩ ?_
                exact ⟨rfl, _, _, _, rfl⟩
          · refine Z_iconst 59 rfl ?_
            refine Z_goto 60 rfl (tgt := 108) rfl ?_
            refine Z_ci (show _ = bI (jpa p.t j 1 ≠ 0) by omega) ?_
            refine Z_iload 62 rfl rfl ?_
            refine Z_if_eq 63 rfl (tgt := 117) rfl (by omega) (fun c110 => ?_) (fun c110 => ?_)
            · refine Z_iconst 66 rfl ?_
              refine Z_ci (show _ = 2 * bI ((pl p.t (pa p.t j) (p.t.2.1 (pa p.t j))).2.2.1 ≠ 0) by omega) ?_
              refine Z_ior 67 rfl ?_
              refine Z_ti (show _ = iI (bI (jpa p.t j 1 ≠ 0) + 2 * bI ((pl p.t (pa p.t j) (p.t.2.1 (pa p.t j))).2.2.1 ≠ 0)) by rcases f1 with y1 | y1 <;> rcases f2 with y2 | y2 <;> rw [y1, y2] <;> decide) ?_
              refine Z_iload 68 rfl rfl ?_
              refine Z_if_eq 69 rfl (tgt := 128) rfl (by omega) (fun c121 => ?_) (fun c121 => ?_)
              · refine Z_iconst 72 rfl ?_
                refine Z_ci (show _ = 4 * bI ((pl p.t j 0).2.2.1 ≠ 0) by omega) ?_
                refine Z_ior 73 rfl ?_
                refine Z_ti (show _ = iI (crn p.t j) by unfold crn; rw [cif_t c5]; rcases f1 with y1 | y1 <;> rcases f2 with y2 | y2 <;> rcases f3 with y3 | y3 <;> rw [y1, y2, y3] <;> decide) ?_
                refine Z_iret 74 rfl rfl ⟨Nat.le_refl _, Nat.le_refl _⟩ ?_
                exact ⟨rfl, _, _, _, rfl⟩
              · refine Z_iconst 70 rfl ?_
                refine Z_goto 71 rfl (tgt := 129) rfl ?_
                refine Z_ci (show _ = 4 * bI ((pl p.t j 0).2.2.1 ≠ 0) by omega) ?_
                refine Z_ior 73 rfl ?_
                refine Z_ti (show _ = iI (crn p.t j) by unfold crn; rw [cif_t c5]; rcases f1 with y1 | y1 <;> rcases f2 with y2 | y2 <;> rcases f3 with y3 | y3 <;> rw [y1, y2, y3] <;> decide) ?_
                refine Z_iret 74 rfl rfl ⟨Nat.le_refl _, Nat.le_refl _⟩ ?_
                exact ⟨rfl, _, _, _, rfl⟩
            · refine Z_iconst 64 rfl ?_
              refine Z_goto 65 rfl (tgt := 118) rfl ?_
              refine Z_ci (show _ = 2 * bI ((pl p.t (pa p.t j) (p.t.2.1 (pa p.t j))).2.2.1 ≠ 0) by omega) ?_
              refine Z_ior 67 rfl ?_
              refine Z_ti (show _ = iI (bI (jpa p.t j 1 ≠ 0) + 2 * bI ((pl p.t (pa p.t j) (p.t.2.1 (pa p.t j))).2.2.1 ≠ 0)) by rcases f1 with y1 | y1 <;> rcases f2 with y2 | y2 <;> rw [y1, y2] <;> decide) ?_
              refine Z_iload 68 rfl rfl ?_
              refine Z_if_eq 69 rfl (tgt := 128) rfl (by omega) (fun c121 => ?_) (fun c121 => ?_)
              · refine Z_iconst 72 rfl ?_
                refine Z_ci (show _ = 4 * bI ((pl p.t j 0).2.2.1 ≠ 0) by omega) ?_
                refine Z_ior 73 rfl ?_
                refine Z_ti (show _ = iI (crn p.t j) by unfold crn; rw [cif_t c5]; rcases f1 with y1 | y1 <;> rcases f2 with y2 | y2 <;> rcases f3 with y3 | y3 <;> rw [y1, y2, y3] <;> decide) ?_
                refine Z_iret 74 rfl rfl ⟨Nat.le_refl _, Nat.le_refl _⟩ ?_
                exact ⟨rfl, _, _, _, rfl⟩
              · refine Z_iconst 70 rfl ?_
                refine Z_goto 71 rfl (tgt := 129) rfl ?_
                refine Z_ci (show _ = 4 * bI ((pl p.t j 0).2.2.1 ≠ 0) by omega) ?_
                refine Z_ior 73 rfl ?_
                refine Z_ti (show _ = iI (crn p.t j) by unfold crn; rw [cif_t c5]; rcases f1 with y1 | y1 <;> rcases f2 with y2 | y2 <;> rcases f3 with y3 | y3 <;> rw [y1, y2, y3] <;> decide) ?_
                refine Z_iret 74 rfl rfl ⟨Nat.le_refl _, Nat.le_refl _⟩ ?_
                exact ⟨rfl, _, _, _, rfl⟩
  · refine Z_iconst 4 rfl ?_
    refine Z_iret 5 rfl rfl ⟨Nat.le_refl _, Nat.le_refl _⟩ ?_
    exact ⟨by unfold crn; rw [cif_f c5], _, _, _, rfl⟩
theorem lp_C_hasCorner (s : SS) (q q2 : Int × Int) (co : Int → Int) (h : PV p) (hco : ∀ k, 0 ≤ k → k < p.t.2.2.2 → co k = crn p.t k) (b : Int) (hb : 0 ≤ b ∧ b < 4096) : ∀ (d : Nat) (k : Int), 0 ≤ k → k ≤ p.t.2.2.2 → p.t.2.2.2 - k < d → (∀ i, 0 ≤ i → i < k → ¬ tbi (crn p.t i) (2 * tbi b (pa p.t i) + tbi b i) = 1) → Z (l, M_C_hasCorner, R_C_hasCorner, (0, 0), false, zAb (hcr p.t b) (fun m => m = eC p rj s w g q q2 sm co)) 0 0 (eC p rj s w g q q2 sm co) 2 [(0, .ref 0), (1, .int (iI b)), (2, .int (iI k))] [] := by
  have h1 := h.1.1.1
  intro d
  induction d with
  | zero => intro k h2 h3 h4; omega
  | succ d ih =>
    intro k h2 h3 h4 h5
    have t1 := tbi_01 b k
    have t2 := tbi_01 b (pa p.t k)
    have t3 := tbi_01 (crn p.t k) (2 * tbi b (pa p.t k) + tbi b k)
    have t4 := crn_bd p.t k
    have t5 : k < p.t.2.2.2 → 0 ≤ pa p.t k ∧ pa p.t k < 12 := by unfold pa; split <;> omega
    refine Z_iload_n 2 rfl rfl rfl ?_
    refine Z_aload_n 3 rfl rfl rfl ?_
    refine Z_get 4 rfl f_C_14 rfl rfl ?_
    refine Z_callVip (M' := M_T_size) 5 [1, 2, 3, 4] rfl l_C_111 C_T_size (c_T_size l p.t) ⟨by decide, (zEL.c (Or.inl rfl) (zEL.c (Or.inl rfl) (zEL.c (Or.inl rfl) (zEL.c (Or.inl rfl) zEL.n))))⟩ (Or.inl ⟨_, _, _, _, rfl, rfl⟩) rfl rfl rfl (Nat.le_of_ble_eq_true rfl) ⟨rfl, rfl, Nat.le_of_ble_eq_true rfl, Nat.le_of_ble_eq_true rfl⟩ ⟨Nat.zero_le _, Nat.zero_le _⟩ ?_
    refine Z_icmp_ge 6 rfl (tgt := 54) rfl (by omega) (by omega) (fun c10 => ?_) (fun c10 => ?_)
    · refine Z_iconst 36 rfl ?_
      refine Z_zret 37 rfl rfl rfl ⟨Nat.le_refl _, Nat.le_refl _⟩ ?_
      exact ⟨bF (fun ⟨kk, k1, k2, k3⟩ => h5 kk k1 (by omega) k3), rfl⟩
    · have t6 := hco k h2 (by omega)
      refine Z_iconst 7 rfl ?_
      refine Z_iload_n 8 rfl rfl rfl ?_
      refine Z_aload_n 9 rfl rfl rfl ?_
      refine Z_iload_n 10 rfl rfl rfl ?_
      refine Z_callVip (M' := M_C_pieceAhead) 11 isC rfl l_C_369 C_C_pieceAhead (c_C_pieceAhead l p rj s w g q q2 sm co h k (by omega)) (emC ..) (Or.inl ⟨_, _, _, _, rfl, rfl⟩) rfl rfl rfl (Nat.le_of_ble_eq_true rfl) ⟨rfl, rfl, Nat.le_of_ble_eq_true rfl, Nat.le_of_ble_eq_true rfl⟩ ⟨Nat.zero_le _, Nat.zero_le _⟩ ?_
      refine Z_ishr 12 rfl ?_
      refine Z_iconst 13 rfl ?_
      refine Z_iand 14 rfl ?_
      refine Z_ti (sr_1 (by omega) (by omega)) ?_
      refine Z_imul 15 rfl ?_
      refine Z_iload_n 16 rfl rfl rfl ?_
      refine Z_iload_n 17 rfl rfl rfl ?_
      refine Z_ishr 18 rfl ?_
      refine Z_iconst 19 rfl ?_
      refine Z_iand 20 rfl ?_
      refine Z_ti (sr_1 (by omega) (by omega)) ?_
      refine Z_iadd 21 rfl ?_
      refine Z_istore_n 22 rfl rfl (Nat.le_of_ble_eq_true rfl) (lv' := [(3, .int _), (0, .ref _), (1, .int _), (2, .int _)]) rfl ?_
      refine Z_aload_n 23 rfl rfl rfl ?_
      refine Z_get 24 rfl f_C_85 rfl rfl ?_
      refine Z_iload_n 25 rfl rfl rfl ?_
      refine Z_callSip (M' := M_C_pick) 26 [26] rfl l_C_148 C_C_pick (pick_in l 12 (by omega) co k (by omega)) ⟨by decide, (zEL.c (Or.inr ⟨_, _, rfl, rfl, by decide⟩) zEL.n)⟩ rfl rfl rfl (Nat.le_of_ble_eq_true rfl) ⟨rfl, rfl, Nat.le_of_ble_eq_true rfl, Nat.le_of_ble_eq_true rfl⟩ ⟨Nat.zero_le _, Nat.zero_le _⟩ ?_
      rw [t6]
      refine Z_iload_n 27 rfl rfl rfl ?_
      refine Z_ishr 28 rfl ?_
      refine Z_iconst 29 rfl ?_
      refine Z_iand 30 rfl ?_
      refine Z_ti (sr_1 (by omega) (by omega)) ?_
      refine Z_if_eq 31 rfl (tgt := 48) rfl (by omega) (fun c43 => ?_) (fun c43 => ?_)
      · refine Z_iinc 34 rfl rfl (Nat.le_of_ble_eq_true rfl) (lv' := [(2, .int _), (3, .int _), (0, .ref _), (1, .int _)]) rfl ?_
        refine Z_goto 35 rfl (tgt := 2) rfl ?_
        refine Z_pick [0, 1, 2] (lv' := [(0, .ref _), (1, .int _), (2, .int _)]) rfl ?_
        exact ih (k + 1) (by omega) (by omega) (by omega) (fun i i1 i2 => by
          by_cases e : i = k
          · rw [e]; omega
          · exact h5 i i1 (by omega))
      · refine Z_iconst 32 rfl ?_
        refine Z_zret 33 rfl rfl rfl ⟨Nat.le_refl _, Nat.le_refl _⟩ ?_
        exact ⟨bT ⟨k, h2, by omega, by omega⟩, rfl⟩
theorem c_C_hasCorner (s : SS) (q q2 : Int × Int) (co : Int → Int) (h : PV p) (hco : ∀ k, 0 ≤ k → k < p.t.2.2.2 → co k = crn p.t k) (b : Int) (hb : 0 ≤ b ∧ b < 4096) : Con l M_C_hasCorner R_C_hasCorner 0 0 false [.ref 0, .int (iI b)] (eC p rj s w g q q2 sm co) (zAb (hcr p.t b) (fun m => m = eC p rj s w g q q2 sm co)) := by
  have h1 := h.1.1.1
  refine Con.of_Z (by decide) D_C_hasCorner (Nat.le_of_ble_eq_true rfl) ?_
  refine Z_iconst 0 rfl ?_
  refine Z_istore_n 1 rfl rfl (Nat.le_of_ble_eq_true rfl) (lv' := [(2, .int _), (0, .ref _), (1, .int _)]) rfl ?_
  refine Z_pick [0, 1, 2] (lv' := [(0, .ref _), (1, .int _), (2, .int _)]) rfl ?_
  exact lp_C_hasCorner l p rj w g sm s q q2 co h hco b hb 13 0 (by omega) (by omega) (by omega) (fun i i1 i2 => by omega)
theorem may_e {t : TT} (h : TV t) {m : Int32} (hm : ∀ i : Nat, i < 32 → (m.toBitVec.getLsbD i = true ↔ ((i : Int) < t.2.2.2 ∧ 1 ≤ t.1 i ∧ t.1 i ≤ 4))) {b : Int} (hb : 0 ≤ b ∧ b < p2 t.2.2.2) : (iI b &&& (m ^^^ iI (-1))) = 0 ↔ mayS t b := by
  have h1 := h.1.1
  rw [an_z]
  constructor
  · intro hz k k1 k2 k3
    have e := hz k.toNat (by omega)
    rw [gb_iI hb.1 _ (by omega)] at e
    have e2 := (hm k.toNat (by omega)).mp (e (by unfold tbi at k3; split at k3; assumption; omega))
    rw [show ((k.toNat : Nat) : Int) = k by omega] at e2
    exact e2.2
  · intro hz i i1 i2
    rw [gb_iI hb.1 _ i1] at i2
    have i3 : (i : Int) < t.2.2.2 := by
      rcases Int.lt_or_le (i : Int) t.2.2.2 with z | z
      · exact z
      · rw [tb_hi hb (by omega)] at i2
        cases i2
    refine (hm i i1).mpr ⟨i3, hz i (by omega) i3 ?_⟩
    unfold tbi
    rw [if_pos (by exact i2)]
theorem lp2_C_smoothed (s : SS) (q q2 : Int × Int) (co : Int → Int) (h : PV p) (hco : ∀ k, 0 ≤ k → k < p.t.2.2.2 → co k = crn p.t k) (m : Int32) (hm : ∀ i : Nat, i < 32 → (m.toBitVec.getLsbD i = true ↔ ((i : Int) < p.t.2.2.2 ∧ 1 ≤ p.t.1 i ∧ p.t.1 i ≤ 4))) : ∀ (d : Nat) (b best few : Int), 0 ≤ b → b ≤ p2 p.t.2.2.2 → p2 p.t.2.2.2 - b < d → smI (okS p.t) b best few → Z (l, M_C_smoothed, R_C_smoothed, (0, 0), false, zAi (smF p.t) (EC rj p)) 0 0 (eC p rj s w g q q2 sm co) 78 [(0, .ref 0), (1, .int m), (2, .int (iI best)), (3, .int (iI few)), (4, .int (iI b))] [] := by
  have h1 := h.1.1.1
  have hp := p2_sh h1
  intro d
  induction d with
  | zero => intro b best few h2 h3 h4; omega
  | succ d ih =>
    intro b best few h2 h3 h4 h5
    have hpc := pcn_bd b
    have hfw : 0 ≤ few ∧ few ≤ 13 := by
      rcases h5 with z | z
      · omega
      · have := pcn_bd best
        omega
    refine Z_iload 47 rfl rfl ?_
    refine Z_iconst 48 rfl ?_
    refine Z_aload_n 49 rfl rfl rfl ?_
    refine Z_get 50 rfl f_C_14 rfl rfl ?_
    refine Z_callVip (M' := M_T_size) 51 [1, 2, 3, 4] rfl l_C_111 C_T_size (c_T_size l p.t) ⟨by decide, (zEL.c (Or.inl rfl) (zEL.c (Or.inl rfl) (zEL.c (Or.inl rfl) (zEL.c (Or.inl rfl) zEL.n))))⟩ (Or.inl ⟨_, _, _, _, rfl, rfl⟩) rfl rfl rfl (Nat.le_of_ble_eq_true rfl) ⟨rfl, rfl, Nat.le_of_ble_eq_true rfl, Nat.le_of_ble_eq_true rfl⟩ ⟨Nat.zero_le _, Nat.zero_le _⟩ ?_
    refine Z_ishl 52 rfl ?_
    refine Z_ti hp.1 ?_
    refine Z_icmp_ge 53 rfl (tgt := 145) rfl (by omega) (by omega) (fun c89 => ?_) (fun c89 => ?_)
    · refine Z_iload_n 79 rfl rfl rfl ?_
      refine Z_iret 80 rfl rfl ⟨Nat.le_refl _, Nat.le_refl _⟩ ?_
      exact ⟨by rw [smF_eq ⟨few, show smI (okS p.t) (p2 p.t.2.2.2) best few by rw [show p2 p.t.2.2.2 = b by omega]; exact h5⟩], _, _, _, _, _, _, _, rfl⟩
    · refine Z_iload 54 rfl rfl ?_
      refine Z_sipush 55 rfl rfl ?_
      refine Z_icmp_ge 56 rfl (tgt := 145) rfl (by omega) (by omega) (fun c97 => ?_) (fun c97 => ?_)
      · exfalso; omega
      have hmy := may_e h.1 hm (b := b) ⟨h2, by omega⟩
      refine Z_iload 57 rfl rfl ?_
      refine Z_iload_n 58 rfl rfl rfl ?_
      refine Z_iconst 59 rfl ?_
      refine Z_ixor 60 rfl ?_
      refine Z_iand 61 rfl ?_
      refine Z_ifr_ne 62 rfl (tgt := 139) rfl (fun c106 => ?_) (fun c106 => ?_)
      · refine Z_iinc 77 rfl rfl (Nat.le_of_ble_eq_true rfl) (lv' := [(4, .int _), (0, .ref _), (1, .int _), (2, .int _), (3, .int _)]) rfl ?_
        refine Z_goto 78 rfl (tgt := 78) rfl ?_
        refine Z_pick [0, 1, 2, 3, 4] (lv' := [(0, .ref _), (1, .int _), (2, .int _), (3, .int _), (4, .int _)]) rfl ?_
        first
          | exact ih (b + 1) best few (by omega) (by omega) (by omega) (smI_skip h2 h5 (Or.inr (by omega)))
          | exact ih (b + 1) best few (by omega) (by omega) (by omega) (smI_skip h2 h5 (Or.inl (fun z => c106 (hmy.mpr z.1))))
          | exact ih (b + 1) best few (by omega) (by omega) (by omega) (smI_skip h2 h5 (Or.inl (fun z => z.2 c124)))
          | exact ih (b + 1) b (pcn b) (by omega) (by omega) (by omega) (smI_take h2 h5 ⟨hmy.mp c106, c124⟩ (by omega))
      · refine Z_iload 63 rfl rfl ?_
        refine Z_callSip (M' := M_J6_bitCount) 64 [] rfl l_C_285 C_J6_bitCount (bitCount_n l b (by omega)) ⟨List.nodup_nil, zEL.n⟩ rfl rfl rfl (Nat.le_of_ble_eq_true rfl) ⟨rfl, rfl, Nat.le_of_ble_eq_true rfl, Nat.le_of_ble_eq_true rfl⟩ ⟨Nat.zero_le _, Nat.zero_le _⟩ ?_
        refine Z_iload_n 65 rfl rfl rfl ?_
        refine Z_icmp_ge 66 rfl (tgt := 139) rfl (by omega) (by omega) (fun c115 => ?_) (fun c115 => ?_)
        · refine Z_iinc 77 rfl rfl (Nat.le_of_ble_eq_true rfl) (lv' := [(4, .int _), (0, .ref _), (1, .int _), (2, .int _), (3, .int _)]) rfl ?_
          refine Z_goto 78 rfl (tgt := 78) rfl ?_
          refine Z_pick [0, 1, 2, 3, 4] (lv' := [(0, .ref _), (1, .int _), (2, .int _), (3, .int _), (4, .int _)]) rfl ?_
          first
            | exact ih (b + 1) best few (by omega) (by omega) (by omega) (smI_skip h2 h5 (Or.inr (by omega)))
            | exact ih (b + 1) best few (by omega) (by omega) (by omega) (smI_skip h2 h5 (Or.inl (fun z => c106 (hmy.mpr z.1))))
            | exact ih (b + 1) best few (by omega) (by omega) (by omega) (smI_skip h2 h5 (Or.inl (fun z => z.2 c124)))
            | exact ih (b + 1) b (pcn b) (by omega) (by omega) (by omega) (smI_take h2 h5 ⟨hmy.mp c106, c124⟩ (by omega))
        · refine Z_aload_n 67 rfl rfl rfl ?_
          refine Z_iload 68 rfl rfl ?_
          refine Z_callVbp (M' := M_C_hasCorner) 69 isC rfl l_C_290 C_C_hasCorner (c_C_hasCorner l p rj w g sm s q q2 co h hco b (by omega)) (emC ..) (Or.inl ⟨_, _, _, _, rfl, rfl⟩) rfl rfl rfl (Nat.le_of_ble_eq_true rfl) ⟨rfl, rfl, Nat.le_of_ble_eq_true rfl, Nat.le_of_ble_eq_true rfl⟩ ⟨Nat.zero_le _, Nat.zero_le _⟩ ?_
          refine Z_ifb_eq 70 rfl (tgt := 130) rfl (fun c124 => ?_) (fun c124 => ?_)
          · refine Z_iload 72 rfl rfl ?_
            refine Z_istore_n 73 rfl rfl (Nat.le_of_ble_eq_true rfl) (lv' := [(2, .int _), (0, .ref _), (1, .int _), (3, .int _), (4, .int _)]) rfl ?_
            refine Z_iload 74 rfl rfl ?_
            refine Z_callSip (M' := M_J6_bitCount) 75 [] rfl l_C_285 C_J6_bitCount (bitCount_n l b (by omega)) ⟨List.nodup_nil, zEL.n⟩ rfl rfl rfl (Nat.le_of_ble_eq_true rfl) ⟨rfl, rfl, Nat.le_of_ble_eq_true rfl, Nat.le_of_ble_eq_true rfl⟩ ⟨Nat.zero_le _, Nat.zero_le _⟩ ?_
            refine Z_istore_n 76 rfl rfl (Nat.le_of_ble_eq_true rfl) (lv' := [(3, .int _), (2, .int _), (0, .ref _), (1, .int _), (4, .int _)]) rfl ?_
            refine Z_iinc 77 rfl rfl (Nat.le_of_ble_eq_true rfl) (lv' := [(4, .int _), (3, .int _), (2, .int _), (0, .ref _), (1, .int _)]) rfl ?_
            refine Z_goto 78 rfl (tgt := 78) rfl ?_
            refine Z_pick [0, 1, 2, 3, 4] (lv' := [(0, .ref _), (1, .int _), (2, .int _), (3, .int _), (4, .int _)]) rfl ?_
            first
              | exact ih (b + 1) best few (by omega) (by omega) (by omega) (smI_skip h2 h5 (Or.inr (by omega)))
              | exact ih (b + 1) best few (by omega) (by omega) (by omega) (smI_skip h2 h5 (Or.inl (fun z => c106 (hmy.mpr z.1))))
              | exact ih (b + 1) best few (by omega) (by omega) (by omega) (smI_skip h2 h5 (Or.inl (fun z => z.2 c124)))
              | exact ih (b + 1) b (pcn b) (by omega) (by omega) (by omega) (smI_take h2 h5 ⟨hmy.mp c106, c124⟩ (by omega))
          · refine Z_goto 71 rfl (tgt := 139) rfl ?_
            refine Z_iinc 77 rfl rfl (Nat.le_of_ble_eq_true rfl) (lv' := [(4, .int _), (0, .ref _), (1, .int _), (2, .int _), (3, .int _)]) rfl ?_
            refine Z_goto 78 rfl (tgt := 78) rfl ?_
            refine Z_pick [0, 1, 2, 3, 4] (lv' := [(0, .ref _), (1, .int _), (2, .int _), (3, .int _), (4, .int _)]) rfl ?_
            first
              | exact ih (b + 1) best few (by omega) (by omega) (by omega) (smI_skip h2 h5 (Or.inr (by omega)))
              | exact ih (b + 1) best few (by omega) (by omega) (by omega) (smI_skip h2 h5 (Or.inl (fun z => c106 (hmy.mpr z.1))))
              | exact ih (b + 1) best few (by omega) (by omega) (by omega) (smI_skip h2 h5 (Or.inl (fun z => z.2 c124)))
              | exact ih (b + 1) b (pcn b) (by omega) (by omega) (by omega) (smI_take h2 h5 ⟨hmy.mp c106, c124⟩ (by omega))
theorem lp_C_smoothed (h : PV p) : ∀ (d : Nat) (k : Int) (s : SS) (q q2 : Int × Int) (co : Int → Int) (m : Int32), 0 ≤ k → k ≤ p.t.2.2.2 → p.t.2.2.2 - k < d → (∀ i, 0 ≤ i → i < k → co i = crn p.t i) → (∀ i : Nat, i < 32 → (m.toBitVec.getLsbD i = true ↔ ((i : Int) < k ∧ 1 ≤ p.t.1 i ∧ p.t.1 i ≤ 4))) → Z (l, M_C_smoothed, R_C_smoothed, (0, 0), false, zAi (smF p.t) (EC rj p)) 0 0 (eC p rj s w g q q2 sm co) 4 [(0, .ref 0), (1, .int m), (2, .int (iI k))] [] := by
  have h1 := h.1.1.1
  have hp := p2_sh h1
  intro d
  induction d with
  | zero => intro k s q q2 co m h2 h3 h4; omega
  | succ d ih =>
    intro k s q q2 co m h2 h3 h4 h5 h6
    have hkk := h.1.1.2.1 k
    refine Z_iload_n 4 rfl rfl rfl ?_
    refine Z_aload_n 5 rfl rfl rfl ?_
    refine Z_get 6 rfl f_C_14 rfl rfl ?_
    refine Z_callVip (M' := M_T_size) 7 [1, 2, 3, 4] rfl l_C_111 C_T_size (c_T_size l p.t) ⟨by decide, (zEL.c (Or.inl rfl) (zEL.c (Or.inl rfl) (zEL.c (Or.inl rfl) (zEL.c (Or.inl rfl) zEL.n))))⟩ (Or.inl ⟨_, _, _, _, rfl, rfl⟩) rfl rfl rfl (Nat.le_of_ble_eq_true rfl) ⟨rfl, rfl, Nat.le_of_ble_eq_true rfl, Nat.le_of_ble_eq_true rfl⟩ ⟨Nat.zero_le _, Nat.zero_le _⟩ ?_
    refine Z_icmp_ge 8 rfl (tgt := 69) rfl (by omega) (by omega) (fun c12 => ?_) (fun c12 => ?_)
    · refine Z_bipush 41 rfl rfl ?_
      refine Z_istore_n 42 rfl rfl (Nat.le_of_ble_eq_true rfl) (lv' := [(2, .int _), (0, .ref _), (1, .int _)]) rfl ?_
      refine Z_bipush 43 rfl rfl ?_
      refine Z_istore_n 44 rfl rfl (Nat.le_of_ble_eq_true rfl) (lv' := [(3, .int _), (2, .int _), (0, .ref _), (1, .int _)]) rfl ?_
      refine Z_iconst 45 rfl ?_
      refine Z_istore 46 rfl (Nat.le_of_ble_eq_true rfl) (lv' := [(4, .int _), (3, .int _), (2, .int _), (0, .ref _), (1, .int _)]) rfl ?_
      refine Z_pick [0, 1, 2, 3, 4] (lv' := [(0, .ref _), (1, .int _), (2, .int _), (3, .int _), (4, .int _)]) rfl ?_
      have ek : k = p.t.2.2.2 := by omega
      rw [ek] at h5 h6
      exact lp2_C_smoothed l p rj w g sm s q q2 co h h5 m h6 4097 0 (-5) 13 (by omega) (by omega) (by omega) (Or.inl ⟨rfl, rfl, fun c c1 c2 => by omega⟩)
    · refine Z_aload_n 9 rfl rfl rfl ?_
      refine Z_get 10 rfl f_C_14 rfl rfl ?_
      refine Z_iload_n 11 rfl rfl rfl ?_
      refine Z_callVip (M' := M_T_kindOf) 12 [1, 2, 3, 4] rfl l_C_121 C_T_kindOf (c_T_kindOf l p.t k (by omega)) ⟨by decide, (zEL.c (Or.inl rfl) (zEL.c (Or.inl rfl) (zEL.c (Or.inl rfl) (zEL.c (Or.inl rfl) zEL.n))))⟩ (Or.inl ⟨_, _, _, _, rfl, rfl⟩) rfl rfl rfl (Nat.le_of_ble_eq_true rfl) ⟨rfl, rfl, Nat.le_of_ble_eq_true rfl, Nat.le_of_ble_eq_true rfl⟩ ⟨Nat.zero_le _, Nat.zero_le _⟩ ?_
      refine Z_istore_n 13 rfl rfl (Nat.le_of_ble_eq_true rfl) (lv' := [(3, .int _), (0, .ref _), (1, .int _), (2, .int _)]) rfl ?_
      refine Z_iload_n 14 rfl rfl rfl ?_
      refine Z_iconst 15 rfl ?_
      refine Z_icmp_eq 16 rfl (tgt := 44) rfl (by omega) (by omega) (fun c26 => ?_) (fun c26 => ?_)
      · refine Z_iload_n 26 rfl rfl rfl ?_
        refine Z_iconst 27 rfl ?_
        refine Z_iload_n 28 rfl rfl rfl ?_
        refine Z_ishl 29 rfl ?_
        refine Z_ior 30 rfl ?_
        refine Z_istore_n 31 rfl rfl (Nat.le_of_ble_eq_true rfl) (lv' := [(1, .int _), (3, .int _), (0, .ref _), (2, .int _)]) rfl ?_
        refine Z_aload_n 32 rfl rfl rfl ?_
        refine Z_get 33 rfl f_C_85 rfl rfl ?_
        refine Z_iload_n 34 rfl rfl rfl ?_
        refine Z_aload_n 35 rfl rfl rfl ?_
        refine Z_iload_n 36 rfl rfl rfl ?_
        refine Z_callVi (M' := M_C_cornersAt) 37 isC rfl l_C_282 C_C_cornersAt (c_C_cornersAt l p rj w g sm s q q2 co h k (by omega)) (emC ..) (Or.inl ⟨_, _, _, _, rfl, rfl⟩) rfl rfl rfl (Nat.le_of_ble_eq_true rfl) ⟨rfl, rfl, Nat.le_of_ble_eq_true rfl, Nat.le_of_ble_eq_true rfl⟩ ⟨Nat.zero_le _, Nat.zero_le _⟩ (fun out hq => ?_)
        obtain ⟨s', q', q2', rfl⟩ := hq
        refine Z_mem (mgC ..) ?_
        refine Z_callSv (M' := M_C_store) 38 [26] rfl l_C_155 C_C_store (c_C_store l 12 (by omega) co k (crn p.t k) (by omega)) ⟨by decide, (zEL.c (Or.inl rfl) zEL.n)⟩ rfl rfl rfl (Nat.le_of_ble_eq_true rfl) ⟨rfl, rfl, Nat.le_of_ble_eq_true rfl, Nat.le_of_ble_eq_true rfl⟩ ⟨Nat.zero_le _, Nat.zero_le _⟩ (fun out hq => ?_)
        obtain rfl := hq
        refine Z_mem (show _ = eC p rj s' w g q' q2' sm (uI co k (crn p.t k)) by rw [stI_in (by omega)]; rfl) ?_
        refine Z_iinc 39 rfl rfl (Nat.le_of_ble_eq_true rfl) (lv' := [(2, .int _), (1, .int _), (3, .int _), (0, .ref _)]) rfl ?_
        refine Z_goto 40 rfl (tgt := 4) rfl ?_
        refine Z_pick [0, 1, 2] (lv' := [(0, .ref _), (1, .int _), (2, .int _)]) rfl ?_
        have hc5 : ∀ i, 0 ≤ i → i < k + 1 → uI co k (crn p.t k) i = crn p.t i := fun i i1 i2 => by
          by_cases e : i = k
          · rw [e, uI_s]
          · rw [uI_n _ _ e]
            exact h5 i i1 (by omega)
        first
          | exact ih (k + 1) s' q' q2' _ _ (by omega) (by omega) (by omega) hc5 (fun i i1 => by
              have hik : (i : Int) = k → p.t.1 i = p.t.1 k := fun z => by rw [z]
              rw [or_k m (by omega) i i1, Bool.or_eq_true, h6 i i1, decide_eq_true_iff]
              omega)
          | exact ih (k + 1) s' q' q2' _ _ (by omega) (by omega) (by omega) hc5 (fun i i1 => by
              have hik : (i : Int) = k → p.t.1 i = p.t.1 k := fun z => by rw [z]
              rw [h6 i i1]
              omega)
      · refine Z_iload_n 17 rfl rfl rfl ?_
        refine Z_iconst 18 rfl ?_
        refine Z_icmp_eq 19 rfl (tgt := 44) rfl (by omega) (by omega) (fun c31 => ?_) (fun c31 => ?_)
        · refine Z_iload_n 26 rfl rfl rfl ?_
          refine Z_iconst 27 rfl ?_
          refine Z_iload_n 28 rfl rfl rfl ?_
          refine Z_ishl 29 rfl ?_
          refine Z_ior 30 rfl ?_
          refine Z_istore_n 31 rfl rfl (Nat.le_of_ble_eq_true rfl) (lv' := [(1, .int _), (3, .int _), (0, .ref _), (2, .int _)]) rfl ?_
          refine Z_aload_n 32 rfl rfl rfl ?_
          refine Z_get 33 rfl f_C_85 rfl rfl ?_
          refine Z_iload_n 34 rfl rfl rfl ?_
          refine Z_aload_n 35 rfl rfl rfl ?_
          refine Z_iload_n 36 rfl rfl rfl ?_
          refine Z_callVi (M' := M_C_cornersAt) 37 isC rfl l_C_282 C_C_cornersAt (c_C_cornersAt l p rj w g sm s q q2 co h k (by omega)) (emC ..) (Or.inl ⟨_, _, _, _, rfl, rfl⟩) rfl rfl rfl (Nat.le_of_ble_eq_true rfl) ⟨rfl, rfl, Nat.le_of_ble_eq_true rfl, Nat.le_of_ble_eq_true rfl⟩ ⟨Nat.zero_le _, Nat.zero_le _⟩ (fun out hq => ?_)
          obtain ⟨s', q', q2', rfl⟩ := hq
          refine Z_mem (mgC ..) ?_
          refine Z_callSv (M' := M_C_store) 38 [26] rfl l_C_155 C_C_store (c_C_store l 12 (by omega) co k (crn p.t k) (by omega)) ⟨by decide, (zEL.c (Or.inl rfl) zEL.n)⟩ rfl rfl rfl (Nat.le_of_ble_eq_true rfl) ⟨rfl, rfl, Nat.le_of_ble_eq_true rfl, Nat.le_of_ble_eq_true rfl⟩ ⟨Nat.zero_le _, Nat.zero_le _⟩ (fun out hq => ?_)
          obtain rfl := hq
          refine Z_mem (show _ = eC p rj s' w g q' q2' sm (uI co k (crn p.t k)) by rw [stI_in (by omega)]; rfl) ?_
          refine Z_iinc 39 rfl rfl (Nat.le_of_ble_eq_true rfl) (lv' := [(2, .int _), (1, .int _), (3, .int _), (0, .ref _)]) rfl ?_
          refine Z_goto 40 rfl (tgt := 4) rfl ?_
          refine Z_pick [0, 1, 2] (lv' := [(0, .ref _), (1, .int _), (2, .int _)]) rfl ?_
          have hc5 : ∀ i, 0 ≤ i → i < k + 1 → uI co k (crn p.t k) i = crn p.t i := fun i i1 i2 => by
            by_cases e : i = k
            · rw [e, uI_s]
            · rw [uI_n _ _ e]
              exact h5 i i1 (by omega)
          first
            | exact ih (k + 1) s' q' q2' _ _ (by omega) (by omega) (by omega) hc5 (fun i i1 => by
                have hik : (i : Int) = k → p.t.1 i = p.t.1 k := fun z => by rw [z]
                rw [or_k m (by omega) i i1, Bool.or_eq_true, h6 i i1, decide_eq_true_iff]
                omega)
            | exact ih (k + 1) s' q' q2' _ _ (by omega) (by omega) (by omega) hc5 (fun i i1 => by
                have hik : (i : Int) = k → p.t.1 i = p.t.1 k := fun z => by rw [z]
                rw [h6 i i1]
                omega)
        · refine Z_iload_n 20 rfl rfl rfl ?_
          refine Z_iconst 21 rfl ?_
          refine Z_icmp_eq 22 rfl (tgt := 44) rfl (by omega) (by omega) (fun c36 => ?_) (fun c36 => ?_)
          · refine Z_iload_n 26 rfl rfl rfl ?_
            refine Z_iconst 27 rfl ?_
            refine Z_iload_n 28 rfl rfl rfl ?_
            refine Z_ishl 29 rfl ?_
            refine Z_ior 30 rfl ?_
            refine Z_istore_n 31 rfl rfl (Nat.le_of_ble_eq_true rfl) (lv' := [(1, .int _), (3, .int _), (0, .ref _), (2, .int _)]) rfl ?_
            refine Z_aload_n 32 rfl rfl rfl ?_
            refine Z_get 33 rfl f_C_85 rfl rfl ?_
            refine Z_iload_n 34 rfl rfl rfl ?_
            refine Z_aload_n 35 rfl rfl rfl ?_
            refine Z_iload_n 36 rfl rfl rfl ?_
            refine Z_callVi (M' := M_C_cornersAt) 37 isC rfl l_C_282 C_C_cornersAt (c_C_cornersAt l p rj w g sm s q q2 co h k (by omega)) (emC ..) (Or.inl ⟨_, _, _, _, rfl, rfl⟩) rfl rfl rfl (Nat.le_of_ble_eq_true rfl) ⟨rfl, rfl, Nat.le_of_ble_eq_true rfl, Nat.le_of_ble_eq_true rfl⟩ ⟨Nat.zero_le _, Nat.zero_le _⟩ (fun out hq => ?_)
            obtain ⟨s', q', q2', rfl⟩ := hq
            refine Z_mem (mgC ..) ?_
            refine Z_callSv (M' := M_C_store) 38 [26] rfl l_C_155 C_C_store (c_C_store l 12 (by omega) co k (crn p.t k) (by omega)) ⟨by decide, (zEL.c (Or.inl rfl) zEL.n)⟩ rfl rfl rfl (Nat.le_of_ble_eq_true rfl) ⟨rfl, rfl, Nat.le_of_ble_eq_true rfl, Nat.le_of_ble_eq_true rfl⟩ ⟨Nat.zero_le _, Nat.zero_le _⟩ (fun out hq => ?_)
            obtain rfl := hq
            refine Z_mem (show _ = eC p rj s' w g q' q2' sm (uI co k (crn p.t k)) by rw [stI_in (by omega)]; rfl) ?_
            refine Z_iinc 39 rfl rfl (Nat.le_of_ble_eq_true rfl) (lv' := [(2, .int _), (1, .int _), (3, .int _), (0, .ref _)]) rfl ?_
            refine Z_goto 40 rfl (tgt := 4) rfl ?_
            refine Z_pick [0, 1, 2] (lv' := [(0, .ref _), (1, .int _), (2, .int _)]) rfl ?_
            have hc5 : ∀ i, 0 ≤ i → i < k + 1 → uI co k (crn p.t k) i = crn p.t i := fun i i1 i2 => by
              by_cases e : i = k
              · rw [e, uI_s]
              · rw [uI_n _ _ e]
                exact h5 i i1 (by omega)
            first
              | exact ih (k + 1) s' q' q2' _ _ (by omega) (by omega) (by omega) hc5 (fun i i1 => by
                  have hik : (i : Int) = k → p.t.1 i = p.t.1 k := fun z => by rw [z]
                  rw [or_k m (by omega) i i1, Bool.or_eq_true, h6 i i1, decide_eq_true_iff]
                  omega)
              | exact ih (k + 1) s' q' q2' _ _ (by omega) (by omega) (by omega) hc5 (fun i i1 => by
                  have hik : (i : Int) = k → p.t.1 i = p.t.1 k := fun z => by rw [z]
                  rw [h6 i i1]
                  omega)
          · refine Z_iload_n 23 rfl rfl rfl ?_
            refine Z_iconst 24 rfl ?_
            refine Z_icmp_ne 25 rfl (tgt := 50) rfl (by omega) (by omega) (fun c41 => ?_) (fun c41 => ?_)
            · refine Z_aload_n 32 rfl rfl rfl ?_
              refine Z_get 33 rfl f_C_85 rfl rfl ?_
              refine Z_iload_n 34 rfl rfl rfl ?_
              refine Z_aload_n 35 rfl rfl rfl ?_
              refine Z_iload_n 36 rfl rfl rfl ?_
              refine Z_callVi (M' := M_C_cornersAt) 37 isC rfl l_C_282 C_C_cornersAt (c_C_cornersAt l p rj w g sm s q q2 co h k (by omega)) (emC ..) (Or.inl ⟨_, _, _, _, rfl, rfl⟩) rfl rfl rfl (Nat.le_of_ble_eq_true rfl) ⟨rfl, rfl, Nat.le_of_ble_eq_true rfl, Nat.le_of_ble_eq_true rfl⟩ ⟨Nat.zero_le _, Nat.zero_le _⟩ (fun out hq => ?_)
              obtain ⟨s', q', q2', rfl⟩ := hq
              refine Z_mem (mgC ..) ?_
              refine Z_callSv (M' := M_C_store) 38 [26] rfl l_C_155 C_C_store (c_C_store l 12 (by omega) co k (crn p.t k) (by omega)) ⟨by decide, (zEL.c (Or.inl rfl) zEL.n)⟩ rfl rfl rfl (Nat.le_of_ble_eq_true rfl) ⟨rfl, rfl, Nat.le_of_ble_eq_true rfl, Nat.le_of_ble_eq_true rfl⟩ ⟨Nat.zero_le _, Nat.zero_le _⟩ (fun out hq => ?_)
              obtain rfl := hq
              refine Z_mem (show _ = eC p rj s' w g q' q2' sm (uI co k (crn p.t k)) by rw [stI_in (by omega)]; rfl) ?_
              refine Z_iinc 39 rfl rfl (Nat.le_of_ble_eq_true rfl) (lv' := [(2, .int _), (3, .int _), (0, .ref _), (1, .int _)]) rfl ?_
              refine Z_goto 40 rfl (tgt := 4) rfl ?_
              refine Z_pick [0, 1, 2] (lv' := [(0, .ref _), (1, .int _), (2, .int _)]) rfl ?_
              have hc5 : ∀ i, 0 ≤ i → i < k + 1 → uI co k (crn p.t k) i = crn p.t i := fun i i1 i2 => by
                by_cases e : i = k
                · rw [e, uI_s]
                · rw [uI_n _ _ e]
                  exact h5 i i1 (by omega)
              first
                | exact ih (k + 1) s' q' q2' _ _ (by omega) (by omega) (by omega) hc5 (fun i i1 => by
                    have hik : (i : Int) = k → p.t.1 i = p.t.1 k := fun z => by rw [z]
                    rw [or_k m (by omega) i i1, Bool.or_eq_true, h6 i i1, decide_eq_true_iff]
                    omega)
                | exact ih (k + 1) s' q' q2' _ _ (by omega) (by omega) (by omega) hc5 (fun i i1 => by
                    have hik : (i : Int) = k → p.t.1 i = p.t.1 k := fun z => by rw [z]
                    rw [h6 i i1]
                    omega)
            · refine Z_iload_n 26 rfl rfl rfl ?_
              refine Z_iconst 27 rfl ?_
              refine Z_iload_n 28 rfl rfl rfl ?_
              refine Z_ishl 29 rfl ?_
              refine Z_ior 30 rfl ?_
              refine Z_istore_n 31 rfl rfl (Nat.le_of_ble_eq_true rfl) (lv' := [(1, .int _), (3, .int _), (0, .ref _), (2, .int _)]) rfl ?_
              refine Z_aload_n 32 rfl rfl rfl ?_
              refine Z_get 33 rfl f_C_85 rfl rfl ?_
              refine Z_iload_n 34 rfl rfl rfl ?_
              refine Z_aload_n 35 rfl rfl rfl ?_
              refine Z_iload_n 36 rfl rfl rfl ?_
              refine Z_callVi (M' := M_C_cornersAt) 37 isC rfl l_C_282 C_C_cornersAt (c_C_cornersAt l p rj w g sm s q q2 co h k (by omega)) (emC ..) (Or.inl ⟨_, _, _, _, rfl, rfl⟩) rfl rfl rfl (Nat.le_of_ble_eq_true rfl) ⟨rfl, rfl, Nat.le_of_ble_eq_true rfl, Nat.le_of_ble_eq_true rfl⟩ ⟨Nat.zero_le _, Nat.zero_le _⟩ (fun out hq => ?_)
              obtain ⟨s', q', q2', rfl⟩ := hq
              refine Z_mem (mgC ..) ?_
              refine Z_callSv (M' := M_C_store) 38 [26] rfl l_C_155 C_C_store (c_C_store l 12 (by omega) co k (crn p.t k) (by omega)) ⟨by decide, (zEL.c (Or.inl rfl) zEL.n)⟩ rfl rfl rfl (Nat.le_of_ble_eq_true rfl) ⟨rfl, rfl, Nat.le_of_ble_eq_true rfl, Nat.le_of_ble_eq_true rfl⟩ ⟨Nat.zero_le _, Nat.zero_le _⟩ (fun out hq => ?_)
              obtain rfl := hq
              refine Z_mem (show _ = eC p rj s' w g q' q2' sm (uI co k (crn p.t k)) by rw [stI_in (by omega)]; rfl) ?_
              refine Z_iinc 39 rfl rfl (Nat.le_of_ble_eq_true rfl) (lv' := [(2, .int _), (1, .int _), (3, .int _), (0, .ref _)]) rfl ?_
              refine Z_goto 40 rfl (tgt := 4) rfl ?_
              refine Z_pick [0, 1, 2] (lv' := [(0, .ref _), (1, .int _), (2, .int _)]) rfl ?_
              have hc5 : ∀ i, 0 ≤ i → i < k + 1 → uI co k (crn p.t k) i = crn p.t i := fun i i1 i2 => by
                by_cases e : i = k
                · rw [e, uI_s]
                · rw [uI_n _ _ e]
                  exact h5 i i1 (by omega)
              first
                | exact ih (k + 1) s' q' q2' _ _ (by omega) (by omega) (by omega) hc5 (fun i i1 => by
                    have hik : (i : Int) = k → p.t.1 i = p.t.1 k := fun z => by rw [z]
                    rw [or_k m (by omega) i i1, Bool.or_eq_true, h6 i i1, decide_eq_true_iff]
                    omega)
                | exact ih (k + 1) s' q' q2' _ _ (by omega) (by omega) (by omega) hc5 (fun i i1 => by
                    have hik : (i : Int) = k → p.t.1 i = p.t.1 k := fun z => by rw [z]
                    rw [h6 i i1]
                    omega)
theorem c_C_smoothed (h : PV p) (s : SS) (q q2 : Int × Int) (co : Int → Int) : Con l M_C_smoothed R_C_smoothed 0 0 false [.ref 0] (eC p rj s w g q q2 sm co) (zAi (smF p.t) (EC rj p)) := by
  have h1 := h.1.1.1
  refine Con.of_Z (by decide) D_C_smoothed (Nat.le_of_ble_eq_true rfl) ?_
  refine Z_iconst 0 rfl ?_
  refine Z_istore_n 1 rfl rfl (Nat.le_of_ble_eq_true rfl) (lv' := [(1, .int _), (0, .ref _)]) rfl ?_
  refine Z_iconst 2 rfl ?_
  refine Z_istore_n 3 rfl rfl (Nat.le_of_ble_eq_true rfl) (lv' := [(2, .int _), (1, .int _), (0, .ref _)]) rfl ?_
  refine Z_pick [0, 1, 2] (lv' := [(0, .ref _), (1, .int _), (2, .int _)]) rfl ?_
  exact lp_C_smoothed l p rj w g sm h 13 0 s q q2 co (iI 0) (by omega) (by omega) (by omega) (fun i i1 i2 => by omega) (fun i i1 => by rw [gb_iI (Int.le_refl 0) i i1]; simp; omega)
end C8
