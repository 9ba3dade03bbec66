/-! Reader: a piece, a tape; CamPieces: cam -/
theorem rb_x {b : Int → Int} {n pla : Int} {rt : TT} {pcs fau unf cau : Int} {m : List zE} (h : (bt b n pla = 32 ∧ m = eRd b n rt (pla + 1) pcs fau unf cau) ∨ (bt b n pla ≠ 32 ∧ m = eRd b n rt pla pcs pla unf (if pla = n then 5 else 4))) : ∃ pl2 fa2 ca2, m = eRd b n rt pl2 pcs fa2 unf ca2 ∧ (bt b n pla = 32 → pl2 = pla + 1 ∧ fa2 = fau ∧ ca2 = cau) ∧ (bt b n pla ≠ 32 → fa2 = pla ∧ ca2 = if pla = n then 5 else 4) := by
  rcases h with ⟨h1, rfl⟩ | ⟨h1, rfl⟩
  · exact ⟨_, _, _, rfl, fun _ => ⟨rfl, rfl, rfl⟩, fun z => absurd h1 z⟩
  · exact ⟨_, _, _, rfl, fun z => absurd z h1, fun _ => ⟨rfl, rfl⟩⟩
/-- what is there behind a piece -/
def PRo (b : Int → Int) (n : Int) (rt : TT) (pla pcs unf : Int) (cs : TT) : List zE → Prop := fun m =>
  ((PR b n pla).1 ≠ 0 ∧ ∃ rt' fau' unf' cau', m = eRd b n rt' (PR b n pla).2.2.2.2 (cs.2.2.2 + 1) fau' unf' cau' ∧ RI (tAp cs (PR b n pla).2.1 (PR b n pla).2.2.1 (PR b n pla).2.2.2.1) rt' (cs.2.2.2 + 1) unf' cau') ∨
  ((PR b n pla).1 = 0 ∧ ∃ pla', m = eRd b n rt pla' pcs (PR b n pla).2.1 unf (PR b n pla).2.2.1)
theorem pr_f {b : Int → Int} {n : Int} {rt : TT} {pla pcs unf : Int} {cs : TT} {q why pla' fa ca : Int} (e : PR b n pla = fl n q why) (e1 : fa = q) (e2 : ca = if q = n then 5 else why) : some (Value.int (iI 0)) = some (Value.int (iI (bI ((PR b n pla).1 ≠ 0)))) ∧ PRo b n rt pla pcs unf cs (eRd b n rt pla' pcs fa unf ca) := by
  have e0 : (PR b n pla).1 = 0 := by rw [e]; rfl
  refine ⟨by rw [bI_f (fun z => z e0)], Or.inr ⟨e0, pla', ?_⟩⟩
  rw [e, e1, e2]
  rfl
theorem pr_y {b : Int → Int} {n : Int} {rt rt' : TT} {pla pcs unf : Int} {cs : TT} {k L r pe fau' unf' cau' : Int} (e : PR b n pla = (1, k, L, r, pe)) (h : RI (tAp cs k L r) rt' (cs.2.2.2 + 1) unf' cau') : some (Value.int (iI 1)) = some (Value.int (iI (bI ((PR b n pla).1 ≠ 0)))) ∧ PRo b n rt pla pcs unf cs (eRd b n rt' pe (cs.2.2.2 + 1) fau' unf' cau') := by
  have e0 : (PR b n pla).1 ≠ 0 := by rw [e]; show (1 : Int) ≠ 0; omega
  refine ⟨by rw [bI_t e0], Or.inl ⟨e0, rt', fau', unf', cau', ?_, ?_⟩⟩
  · rw [e]
  · rw [e]
    exact h
section D2
variable (l : Launch) (b : Int → Int) (n : Int) (rt : TT) (pcs fau unf cau : Int)
theorem c_D_readPiece (pla : Int) (cs : TT) (hn : 0 ≤ n ∧ n ≤ 120) (hp : 0 ≤ pla ∧ pla ≤ n) (hbt : ∀ i, 0 ≤ b i ∧ b i ≤ 127) (hR : RI cs rt pcs unf cau) (hc : cs.2.2.2 ≤ 120) : Con l M_D_readPiece R_D_readPiece 0 0 false [.ref 0] (eRd b n rt pla pcs fau unf cau) (zAb ((PR b n pla).1 ≠ 0) (PRo b n rt pla pcs unf cs)) := by
  have hkd := kd2_bd b n pla
  have hE := wE_is b hp.2
  have hE1 := hE.1
  have hE2 := IsE_le hE hp.2
  have hlt : ∀ x, bt b n x = 32 → x < n := fun x z => by
    unfold bt at z
    split at z
    · assumption
    · omega
  refine Con.of_Z (by decide) D_D_readPiece (Nat.le_of_ble_eq_true rfl) ?_
  refine Z_aload_n 0 rfl rfl rfl ?_
  refine Z_get 1 rfl f_D_26 rfl rfl ?_
  refine Z_istore_n 2 rfl rfl (Nat.le_of_ble_eq_true rfl) (lv' := [(1, .int _), (0, .ref _)]) rfl ?_
  refine Z_aload_n 3 rfl rfl rfl ?_
  refine Z_callVi (M' := M_D_readKind) 4 isD rfl l_D_60 C_D_readKind (c_D_readKind l b n rt pcs fau unf cau pla hn hp hbt) (emD ..) (Or.inl ⟨_, _, _, _, rfl, rfl⟩) rfl rfl rfl (Nat.le_of_ble_eq_true rfl) ⟨rfl, rfl, Nat.le_of_ble_eq_true rfl, Nat.le_of_ble_eq_true rfl⟩ ⟨Nat.zero_le _, Nat.zero_le _⟩ (fun out hq => ?_)
  obtain rfl := hq
  refine Z_mem (mgD ..) ?_
  refine Z_istore_n 5 rfl rfl (Nat.le_of_ble_eq_true rfl) (lv' := [(2, .int _), (1, .int _), (0, .ref _)]) rfl ?_
  refine Z_iload_n 6 rfl rfl rfl ?_
  refine Z_if_ge 7 rfl (tgt := 21) rfl (by omega) (fun c11 => ?_) (fun c11 => ?_)
  · refine Z_aload_n 13 rfl rfl rfl ?_
    refine Z_callVb (M' := M_D_readBlank) 14 isD rfl l_D_63 C_D_readBlank (c_D_readBlank l b n rt pcs fau unf cau (wE b n pla) hn (by omega) hbt) (emD ..) (Or.inl ⟨_, _, _, _, rfl, rfl⟩) rfl rfl rfl (Nat.le_of_ble_eq_true rfl) ⟨rfl, rfl, Nat.le_of_ble_eq_true rfl, Nat.le_of_ble_eq_true rfl⟩ ⟨Nat.zero_le _, Nat.zero_le _⟩ (fun out hq => ?_)
    obtain ⟨pl2, fa2, ca2, rfl, hq1, hq2⟩ := rb_x hq -- := hq
    refine Z_mem (mgD ..) ?_
    refine Z_ifb_ne 15 rfl (tgt := 30) rfl (fun c25 => ?_) (fun c25 => ?_)
    · obtain ⟨e1, e2, e3⟩ := hq1 c25
      rw [e1, e2, e3]
      have hl1 := hlt _ c25
      have hf := fg3_bd b (show wE b n pla + 1 ≤ n by omega)
      refine Z_aload_n 18 rfl rfl rfl ?_
      refine Z_get 19 rfl f_D_26 rfl rfl ?_
      refine Z_istore_n 20 rfl rfl (Nat.le_of_ble_eq_true rfl) (lv' := [(3, .int _), (2, .int _), (1, .int _), (0, .ref _)]) rfl ?_
      refine Z_aload_n 21 rfl rfl rfl ?_
      refine Z_iconst 22 rfl ?_
      refine Z_callVi (M' := M_D_readFigures) 23 isD rfl l_D_66 C_D_readFigures (c_D_readFigures l b n rt pcs fau unf cau (wE b n pla + 1) 3 (by omega) hn (by omega) hbt) (emD ..) (Or.inl ⟨_, _, _, _, rfl, rfl⟩) rfl rfl rfl (Nat.le_of_ble_eq_true rfl) ⟨rfl, rfl, Nat.le_of_ble_eq_true rfl, Nat.le_of_ble_eq_true rfl⟩ ⟨Nat.zero_le _, Nat.zero_le _⟩ (fun out hq => ?_)
      obtain rfl := hq
      refine Z_mem (mgD ..) ?_
      refine Z_istore 24 rfl (Nat.le_of_ble_eq_true rfl) (lv' := [(4, .int _), (3, .int _), (2, .int _), (1, .int _), (0, .ref _)]) rfl ?_
      refine Z_iload 25 rfl rfl ?_
      refine Z_iconst 26 rfl ?_
      refine Z_icmp_lt 27 rfl (tgt := 56) rfl (by omega) (by omega) (fun c45 => ?_) (fun c45 => ?_)
      · refine Z_aload_n 31 rfl rfl rfl ?_
        refine Z_iload_n 32 rfl rfl rfl ?_
        refine Z_iconst 33 rfl ?_
        refine Z_callVb (M' := M_D_fail) 34 isD rfl l_D_56 C_D_fail (c_D_fail l b n rt pcs fau unf cau _ (wE b n pla + 1) 2 hn (by omega)) (emD ..) (Or.inl ⟨_, _, _, _, rfl, rfl⟩) rfl rfl rfl (Nat.le_of_ble_eq_true rfl) ⟨rfl, rfl, Nat.le_of_ble_eq_true rfl, Nat.le_of_ble_eq_true rfl⟩ ⟨Nat.zero_le _, Nat.zero_le _⟩ (fun out hq => ?_)
        obtain rfl := hq
        refine Z_mem (mgD ..) ?_
        refine Z_zret 35 rfl rfl (bI_nar _) ⟨Nat.le_refl _, Nat.le_refl _⟩ ?_
        rw [bI_f (show ¬ False from id)]
        exact pr_f (show PR b n pla = fl n (wE b n pla + 1) 2 by unfold PR PR3; rw [if_neg (by omega), if_pos c25, if_pos (by omega)]) rfl rfl
      · refine Z_iload 28 rfl rfl ?_
        refine Z_sipush 29 rfl rfl ?_
        refine Z_icmp_le 30 rfl (tgt := 63) rfl (by omega) (by omega) (fun c53 => ?_) (fun c53 => ?_)
        · refine Z_iconst 36 rfl ?_
          refine Z_istore 37 rfl (Nat.le_of_ble_eq_true rfl) (lv' := [(5, .int _), (4, .int _), (3, .int _), (2, .int _), (1, .int _), (0, .ref _)]) rfl ?_
          refine Z_iload_n 38 rfl rfl rfl ?_
          refine Z_if_eq 39 rfl (tgt := 104) rfl (by omega) (fun c67 => ?_) (fun c67 => ?_)
          · refine Z_aload_n 58 rfl rfl rfl ?_
            refine Z_iload_n 59 rfl rfl rfl ?_
            refine Z_iload 60 rfl rfl ?_
            refine Z_iload 61 rfl rfl ?_
            refine Z_callVv (M' := M_D_keep) 62 isD rfl l_D_73 C_D_keep (c_D_keep l b n rt pcs fau unf cau _ cs (kd2 b n pla) (fg b n 3 (wE b n pla + 1) 0).1 _ (by unfold mb; omega) hR hc) (emD ..) (Or.inl ⟨_, _, _, _, rfl, rfl⟩) rfl rfl rfl (Nat.le_of_ble_eq_true rfl) ⟨rfl, rfl, Nat.le_of_ble_eq_true rfl, Nat.le_of_ble_eq_true rfl⟩ ⟨Nat.zero_le _, Nat.zero_le _⟩ (fun out hq => ?_)
            obtain ⟨rt', unf', cau', rfl, hRI⟩ := hq
            refine Z_mem (mgD ..) ?_
            refine Z_iconst 63 rfl ?_
            refine Z_zret 64 rfl rfl rfl ⟨Nat.le_refl _, Nat.le_refl _⟩ ?_
            first
              | exact pr_y (show PR b n pla = (1, kd2 b n pla, (fg b n 3 (wE b n pla + 1) 0).1, 0, (fg b n 3 (wE b n pla + 1) 0).2) by unfold PR PR3 PR4; rw [if_neg (by omega), if_pos c25, if_neg (by omega), if_pos c67]) hRI
              | exact pr_y (show PR b n pla = (1, kd2 b n pla, (fg b n 3 (wE b n pla + 1) 0).1, rsV b n ((fg b n 3 (wE b n pla + 1) 0).2 + 1), rsP b n ((fg b n 3 (wE b n pla + 1) 0).2 + 1)) by unfold PR PR3 PR4 PR5; rw [if_neg (by omega), if_pos c25, if_neg (by omega), if_neg c67, if_pos c74, if_neg c93]) hRI
          · refine Z_aload_n 40 rfl rfl rfl ?_
            refine Z_callVb (M' := M_D_readBlank) 41 isD rfl l_D_63 C_D_readBlank (c_D_readBlank l b n rt pcs fau unf cau (fg b n 3 (wE b n pla + 1) 0).2 hn (by omega) hbt) (emD ..) (Or.inl ⟨_, _, _, _, rfl, rfl⟩) rfl rfl rfl (Nat.le_of_ble_eq_true rfl) ⟨rfl, rfl, Nat.le_of_ble_eq_true rfl, Nat.le_of_ble_eq_true rfl⟩ ⟨Nat.zero_le _, Nat.zero_le _⟩ (fun out hq => ?_)
            obtain ⟨pl3, fa3, ca3, rfl, hr1, hr2⟩ := rb_x hq -- := hq
            refine Z_mem (mgD ..) ?_
            refine Z_ifb_ne 42 rfl (tgt := 79) rfl (fun c74 => ?_) (fun c74 => ?_)
            · obtain ⟨e1, e2, e3⟩ := hr1 c74
              rw [e1, e2, e3]
              have hl2 := hlt _ c74
              have hrs := rs_bd b (show (fg b n 3 (wE b n pla + 1) 0).2 + 1 ≤ n by omega)
              refine Z_aload_n 45 rfl rfl rfl ?_
              refine Z_get 46 rfl f_D_26 rfl rfl ?_
              refine Z_istore 47 rfl (Nat.le_of_ble_eq_true rfl) (lv' := [(6, .int _), (5, .int _), (4, .int _), (3, .int _), (2, .int _), (1, .int _), (0, .ref _)]) rfl ?_
              refine Z_aload_n 48 rfl rfl rfl ?_
              refine Z_callVi (M' := M_D_readRise) 49 isD rfl l_D_70 C_D_readRise (c_D_readRise l b n rt pcs fau unf cau ((fg b n 3 (wE b n pla + 1) 0).2 + 1) hn (by omega) hbt) (emD ..) (Or.inl ⟨_, _, _, _, rfl, rfl⟩) rfl rfl rfl (Nat.le_of_ble_eq_true rfl) ⟨rfl, rfl, Nat.le_of_ble_eq_true rfl, Nat.le_of_ble_eq_true rfl⟩ ⟨Nat.zero_le _, Nat.zero_le _⟩ (fun out hq => ?_)
              obtain rfl := hq
              refine Z_mem (mgD ..) ?_
              refine Z_istore 50 rfl (Nat.le_of_ble_eq_true rfl) (lv' := [(5, .int _), (6, .int _), (4, .int _), (3, .int _), (2, .int _), (1, .int _), (0, .ref _)]) rfl ?_
              refine Z_iload 51 rfl rfl ?_
              refine Z_if_ne 52 rfl (tgt := 104) rfl (by omega) (fun c93 => ?_) (fun c93 => ?_)
              · refine Z_aload_n 58 rfl rfl rfl ?_
                refine Z_iload_n 59 rfl rfl rfl ?_
                refine Z_iload 60 rfl rfl ?_
                refine Z_iload 61 rfl rfl ?_
                refine Z_callVv (M' := M_D_keep) 62 isD rfl l_D_73 C_D_keep (c_D_keep l b n rt pcs fau unf cau _ cs (kd2 b n pla) (fg b n 3 (wE b n pla + 1) 0).1 _ (by unfold mb; omega) hR hc) (emD ..) (Or.inl ⟨_, _, _, _, rfl, rfl⟩) rfl rfl rfl (Nat.le_of_ble_eq_true rfl) ⟨rfl, rfl, Nat.le_of_ble_eq_true rfl, Nat.le_of_ble_eq_true rfl⟩ ⟨Nat.zero_le _, Nat.zero_le _⟩ (fun out hq => ?_)
                obtain ⟨rt', unf', cau', rfl, hRI⟩ := hq
                refine Z_mem (mgD ..) ?_
                refine Z_iconst 63 rfl ?_
                refine Z_zret 64 rfl rfl rfl ⟨Nat.le_refl _, Nat.le_refl _⟩ ?_
                first
                  | exact pr_y (show PR b n pla = (1, kd2 b n pla, (fg b n 3 (wE b n pla + 1) 0).1, 0, (fg b n 3 (wE b n pla + 1) 0).2) by unfold PR PR3 PR4; rw [if_neg (by omega), if_pos c25, if_neg (by omega), if_pos c67]) hRI
                  | exact pr_y (show PR b n pla = (1, kd2 b n pla, (fg b n 3 (wE b n pla + 1) 0).1, rsV b n ((fg b n 3 (wE b n pla + 1) 0).2 + 1), rsP b n ((fg b n 3 (wE b n pla + 1) 0).2 + 1)) by unfold PR PR3 PR4 PR5; rw [if_neg (by omega), if_pos c25, if_neg (by omega), if_neg c67, if_pos c74, if_neg c93]) hRI
              · refine Z_aload_n 53 rfl rfl rfl ?_
                refine Z_iload 54 rfl rfl ?_
                refine Z_iconst 55 rfl ?_
                refine Z_callVb (M' := M_D_fail) 56 isD rfl l_D_56 C_D_fail (c_D_fail l b n rt pcs fau unf cau _ ((fg b n 3 (wE b n pla + 1) 0).2 + 1) 3 hn (by omega)) (emD ..) (Or.inl ⟨_, _, _, _, rfl, rfl⟩) rfl rfl rfl (Nat.le_of_ble_eq_true rfl) ⟨rfl, rfl, Nat.le_of_ble_eq_true rfl, Nat.le_of_ble_eq_true rfl⟩ ⟨Nat.zero_le _, Nat.zero_le _⟩ (fun out hq => ?_)
                obtain rfl := hq
                refine Z_mem (mgD ..) ?_
                refine Z_zret 57 rfl rfl (bI_nar _) ⟨Nat.le_refl _, Nat.le_refl _⟩ ?_
                rw [bI_f (show ¬ False from id)]
                exact pr_f (show PR b n pla = fl n ((fg b n 3 (wE b n pla + 1) 0).2 + 1) 3 by unfold PR PR3 PR4 PR5; rw [if_neg (by omega), if_pos c25, if_neg (by omega), if_neg c67, if_pos c74, if_pos c93]) rfl rfl
            · refine Z_iconst 43 rfl ?_
              refine Z_zret 44 rfl rfl rfl ⟨Nat.le_refl _, Nat.le_refl _⟩ ?_
              exact pr_f (show PR b n pla = fl n (fg b n 3 (wE b n pla + 1) 0).2 4 by unfold PR PR3 PR4; rw [if_neg (by omega), if_pos c25, if_neg (by omega), if_neg c67, if_neg c74]) (hr2 c74).1 (hr2 c74).2
        · refine Z_aload_n 31 rfl rfl rfl ?_
          refine Z_iload_n 32 rfl rfl rfl ?_
          refine Z_iconst 33 rfl ?_
          refine Z_callVb (M' := M_D_fail) 34 isD rfl l_D_56 C_D_fail (c_D_fail l b n rt pcs fau unf cau _ (wE b n pla + 1) 2 hn (by omega)) (emD ..) (Or.inl ⟨_, _, _, _, rfl, rfl⟩) rfl rfl rfl (Nat.le_of_ble_eq_true rfl) ⟨rfl, rfl, Nat.le_of_ble_eq_true rfl, Nat.le_of_ble_eq_true rfl⟩ ⟨Nat.zero_le _, Nat.zero_le _⟩ (fun out hq => ?_)
          obtain rfl := hq
          refine Z_mem (mgD ..) ?_
          refine Z_zret 35 rfl rfl (bI_nar _) ⟨Nat.le_refl _, Nat.le_refl _⟩ ?_
          rw [bI_f (show ¬ False from id)]
          exact pr_f (show PR b n pla = fl n (wE b n pla + 1) 2 by unfold PR PR3; rw [if_neg (by omega), if_pos c25, if_pos (by omega)]) rfl rfl
    · refine Z_iconst 16 rfl ?_
      refine Z_zret 17 rfl rfl rfl ⟨Nat.le_refl _, Nat.le_refl _⟩ ?_
      exact pr_f (show PR b n pla = fl n (wE b n pla) 4 by unfold PR PR3; rw [if_neg (by omega), if_neg c25]) (hq2 c25).1 (hq2 c25).2
  · refine Z_aload_n 8 rfl rfl rfl ?_
    refine Z_iload_n 9 rfl rfl rfl ?_
    refine Z_iconst 10 rfl ?_
    refine Z_callVb (M' := M_D_fail) 11 isD rfl l_D_56 C_D_fail (c_D_fail l b n rt pcs fau unf cau _ pla 1 hn (by omega)) (emD ..) (Or.inl ⟨_, _, _, _, rfl, rfl⟩) rfl rfl rfl (Nat.le_of_ble_eq_true rfl) ⟨rfl, rfl, Nat.le_of_ble_eq_true rfl, Nat.le_of_ble_eq_true rfl⟩ ⟨Nat.zero_le _, Nat.zero_le _⟩ (fun out hq => ?_)
    obtain rfl := hq
    refine Z_mem (mgD ..) ?_
    refine Z_zret 12 rfl rfl (bI_nar _) ⟨Nat.le_refl _, Nat.le_refl _⟩ ?_
    rw [bI_f (show ¬ False from id)]
    exact pr_f (show PR b n pla = fl n pla 1 by unfold PR; rw [if_pos (by omega)]) rfl rfl
/-- what is there behind a tape -/
def TPo (b : Int → Int) (n : Int) : List zE → Prop := fun m => ∃ rt' pla' pcs' fau' unf' cau', m = eRd b n rt' pla' pcs' fau' unf' cau' ∧ TV rt' ∧ ((tpI b n 0 cs0).1 ≠ 0 → RI (tpI b n 0 cs0).2.2.2 rt' pcs' unf' cau') ∧ ((tpI b n 0 cs0).1 = 0 → fau' = (tpI b n 0 cs0).2.1 ∧ cau' = (tpI b n 0 cs0).2.2.1)
theorem pro_x {b : Int → Int} {n : Int} {rt : TT} {pla pcs unf : Int} {cs : TT} {m : List zE} (hT : TV rt) (h : PRo b n rt pla pcs unf cs m) : ∃ rt' pl' pc' fa' un' ca', m = eRd b n rt' pl' pc' fa' un' ca' ∧ TV rt' ∧ ((PR b n pla).1 ≠ 0 → pl' = (PR b n pla).2.2.2.2 ∧ RI (tAp cs (PR b n pla).2.1 (PR b n pla).2.2.1 (PR b n pla).2.2.2.1) rt' pc' un' ca') ∧ ((PR b n pla).1 = 0 → fa' = (PR b n pla).2.1 ∧ ca' = (PR b n pla).2.2.1) := by
  rcases h with ⟨h1, rt', fa', un', ca', rfl, h2⟩ | ⟨h1, pl', rfl⟩
  · exact ⟨_, _, _, _, _, _, rfl, h2.1, fun _ => ⟨rfl, h2⟩, fun z => absurd z h1⟩
  · exact ⟨_, _, _, _, _, _, rfl, hT, fun z => absurd h1 z, fun _ => ⟨rfl, rfl⟩⟩
theorem lp_D_readTape (hn : 0 ≤ n ∧ n ≤ 120) (hbt : ∀ i, 0 ≤ b i ∧ b i ≤ 127) : ∀ (d : Nat) (i pla : Int) (rt cs : TT) (pcs fau unf cau : Int), 0 ≤ i → i ≤ pla → pla ≤ n → n + 1 - pla < d → RI cs rt pcs unf cau → cs.2.2.2 = i → tpI b n pla cs = tpI b n 0 cs0 → Z (l, M_D_readTape, R_D_readTape, (0, 0), false, zAb ((tpI b n 0 cs0).1 ≠ 0) (TPo b n)) 0 0 (eRd b n rt pla pcs fau unf cau) 29 [(0, .ref 0), (1, .int (iI i))] [] := by
  intro d
  induction d with
  | zero => intro i pla rt cs pcs fau unf cau h1 h2 h3 h4; omega
  | succ d ih =>
    intro i pla rt cs pcs fau unf cau h1 h2 h3 h4 h5 h6 h7
    have hk : (PR b n pla).1 ≠ 0 → mb (PR b n pla).2.1 (PR b n pla).2.2.1 (PR b n pla).2.2.2.1 ∧ pla < (PR b n pla).2.2.2.2 ∧ (PR b n pla).2.2.2.2 ≤ n := fun z => PR_ok h3 z
    have hbv : -1 ≤ bt b n (PR b n pla).2.2.2.2 ∧ bt b n (PR b n pla).2.2.2.2 ≤ 127 := by
      have := hbt (PR b n pla).2.2.2.2
      unfold bt
      split <;> omega
    refine Z_iload_n 17 rfl rfl rfl ?_
    refine Z_bipush 18 rfl rfl ?_
    refine Z_icmp_gt 19 rfl (tgt := 90) rfl (by omega) (by omega) (fun c32 => ?_) (fun c32 => ?_)
    · exfalso; omega
    refine Z_aload_n 20 rfl rfl rfl ?_
    refine Z_callVb (M' := M_D_readPiece) 21 isD rfl l_D_48 C_D_readPiece (c_D_readPiece l b n rt pcs fau unf cau pla cs hn (by omega) hbt h5 (by omega)) (emD ..) (Or.inl ⟨_, _, _, _, rfl, rfl⟩) rfl rfl rfl (Nat.le_of_ble_eq_true rfl) ⟨rfl, rfl, Nat.le_of_ble_eq_true rfl, Nat.le_of_ble_eq_true rfl⟩ ⟨Nat.zero_le _, Nat.zero_le _⟩ (fun out hq => ?_)
    obtain ⟨rt', pl', pc', fa', un', ca', rfl, hT', hy, hz⟩ := pro_x h5.1 hq -- := hq
    refine Z_mem (mgD ..) ?_
    refine Z_ifb_eq 22 rfl (tgt := 90) rfl (fun c39 => ?_) (fun c39 => ?_)
    · refine Z_iconst 48 rfl ?_
      refine Z_zret 49 rfl rfl rfl ⟨Nat.le_refl _, Nat.le_refl _⟩ ?_
      have c0 : (PR b n pla).1 = 0 := by omega
      exact ⟨by rw [← h7, tpI_0 c0]; exact bF (fun y => y rfl), _, _, _, _, _, _, rfl, hT', fun y => by rw [← h7, tpI_0 c0] at y; exact absurd rfl y, fun _ => by rw [← h7, tpI_0 c0]; exact hz c0⟩
    · obtain ⟨e1, hRI⟩ := hy c39
      obtain ⟨k1, k2, k3⟩ := hk c39
      rw [e1]
      refine Z_aload_n 23 rfl rfl rfl ?_
      refine Z_get 24 rfl f_D_26 rfl rfl ?_
      refine Z_aload_n 25 rfl rfl rfl ?_
      refine Z_get 26 rfl f_D_15 rfl rfl ?_
      refine Z_icmp_ne 27 rfl (tgt := 55) rfl (by omega) (by omega) (fun c50 => ?_) (fun c50 => ?_)
      · refine Z_aload_n 30 rfl rfl rfl ?_
        refine Z_callVip (M' := M_D_byteHere) 31 isD rfl l_D_52 C_D_byteHere (c_D_byteHere l b n _ _ _ _ _ (PR b n pla).2.2.2.2 hn (by omega)) (emD ..) (Or.inl ⟨_, _, _, _, rfl, rfl⟩) rfl rfl rfl (Nat.le_of_ble_eq_true rfl) ⟨rfl, rfl, Nat.le_of_ble_eq_true rfl, Nat.le_of_ble_eq_true rfl⟩ ⟨Nat.zero_le _, Nat.zero_le _⟩ ?_
        refine Z_bipush 32 rfl rfl ?_
        refine Z_icmp_eq 33 rfl (tgt := 74) rfl (by omega) (by omega) (fun c61 => ?_) (fun c61 => ?_)
        · refine Z_aload_n 40 rfl rfl rfl ?_
          refine Z_dup 41 rfl rfl ?_
          refine Z_get 42 rfl f_D_26 rfl rfl ?_
          refine Z_iconst 43 rfl ?_
          refine Z_iadd 44 rfl ?_
          refine Z_put 45 rfl f_D_26 rfl (Nat.le_of_ble_eq_true rfl) (fun _ => ⟨rfl, rfl⟩) (fs' := []) (mem' := eRd b n rt' ((PR b n pla).2.2.2.2 + 1) pc' fa' un' ca') rfl ?_
          refine Z_iinc 46 rfl rfl (Nat.le_of_ble_eq_true rfl) (lv' := [(1, .int _), (0, .ref _)]) rfl ?_
          refine Z_goto 47 rfl (tgt := 29) rfl ?_
          refine Z_pick [0, 1] (lv' := [(0, .ref _), (1, .int _)]) rfl ?_
          have hlt2 : (PR b n pla).2.2.2.2 < n := by omega
          exact ih (i + 1) ((PR b n pla).2.2.2.2 + 1) rt' _ pc' fa' un' ca' (by omega) (by omega) (by omega) (by omega) hRI (by show cs.2.2.2 + 1 = i + 1; omega) (by rw [← h7, tpI_3 h3 c39 c50 c61])
        · refine Z_aload_n 34 rfl rfl rfl ?_
          refine Z_aload_n 35 rfl rfl rfl ?_
          refine Z_get 36 rfl f_D_26 rfl rfl ?_
          refine Z_iconst 37 rfl ?_
          refine Z_callVb (M' := M_D_fail) 38 isD rfl l_D_56 C_D_fail (c_D_fail l b n _ _ _ _ _ _ (PR b n pla).2.2.2.2 4 hn (by omega)) (emD ..) (Or.inl ⟨_, _, _, _, rfl, rfl⟩) rfl rfl rfl (Nat.le_of_ble_eq_true rfl) ⟨rfl, rfl, Nat.le_of_ble_eq_true rfl, Nat.le_of_ble_eq_true rfl⟩ ⟨Nat.zero_le _, Nat.zero_le _⟩ (fun out hq => ?_)
          obtain rfl := hq
          refine Z_mem (mgD ..) ?_
          refine Z_zret 39 rfl rfl (bI_nar _) ⟨Nat.le_refl _, Nat.le_refl _⟩ ?_
          rw [bI_f (show ¬ False from id)]
          exact ⟨by rw [← h7, tpI_2 c39 c50 c61]; exact bF (fun y => y rfl), _, _, _, _, _, _, rfl, hT', fun y => by rw [← h7, tpI_2 c39 c50 c61] at y; exact absurd rfl y, fun _ => by rw [← h7, tpI_2 c39 c50 c61]; exact ⟨rfl, by rw [if_neg c50]⟩⟩
      · refine Z_iconst 28 rfl ?_
        refine Z_zret 29 rfl rfl rfl ⟨Nat.le_refl _, Nat.le_refl _⟩ ?_
        exact ⟨by rw [← h7, tpI_1 c39 c50]; exact bT (show (1 : Int) ≠ 0 by omega), _, _, _, _, _, _, rfl, hT', fun _ => by rw [← h7, tpI_1 c39 c50]; exact hRI, fun y => by rw [← h7, tpI_1 c39 c50] at y; exact absurd y (show (1 : Int) ≠ 0 by omega)⟩
theorem c_D_readTape (pla : Int) (hn : 0 ≤ n ∧ n ≤ 120) (hbt : ∀ i, 0 ≤ b i ∧ b i ≤ 127) (hT : TV rt) : Con l M_D_readTape R_D_readTape 0 0 false [.ref 0] (eRd b n rt pla pcs fau unf cau) (zAb ((tpI b n 0 cs0).1 ≠ 0) (TPo b n)) := by
  refine Con.of_Z (by decide) D_D_readTape (Nat.le_of_ble_eq_true rfl) ?_
  refine Z_aload_n 0 rfl rfl rfl ?_
  refine Z_iconst 1 rfl ?_
  refine Z_put 2 rfl f_D_26 rfl (Nat.le_of_ble_eq_true rfl) (fun _ => ⟨rfl, rfl⟩) (fs' := []) (mem' := eRd b n rt 0 pcs fau unf cau) rfl ?_
  refine Z_aload_n 3 rfl rfl rfl ?_
  refine Z_iconst 4 rfl ?_
  refine Z_put 5 rfl f_D_29 rfl (Nat.le_of_ble_eq_true rfl) (fun _ => ⟨rfl, rfl⟩) (fs' := []) (mem' := eRd b n rt 0 0 fau unf cau) rfl ?_
  refine Z_aload_n 6 rfl rfl rfl ?_
  refine Z_iconst 7 rfl ?_
  refine Z_put 8 rfl f_D_32 rfl (Nat.le_of_ble_eq_true rfl) (fun _ => ⟨rfl, rfl⟩) (fs' := []) (mem' := eRd b n rt 0 0 (-1) unf cau) rfl ?_
  refine Z_aload_n 9 rfl rfl rfl ?_
  refine Z_iconst 10 rfl ?_
  refine Z_put 11 rfl f_D_35 rfl (Nat.le_of_ble_eq_true rfl) (fun _ => ⟨rfl, rfl⟩) (fs' := []) (mem' := eRd b n rt 0 0 (-1) (-1) cau) rfl ?_
  refine Z_aload_n 12 rfl rfl rfl ?_
  refine Z_get 13 rfl f_D_22 rfl rfl ?_
  refine Z_callVv (M' := M_T_empty) 14 [2, 3, 4, 5] rfl l_D_45 C_T_empty (c_T_empty l rt) ⟨by decide, (zEL.c (Or.inl rfl) (zEL.c (Or.inl rfl) (zEL.c (Or.inl rfl) (zEL.c (Or.inl rfl) zEL.n))))⟩ (Or.inl ⟨_, _, _, _, rfl, rfl⟩) rfl rfl rfl (Nat.le_of_ble_eq_true rfl) ⟨rfl, rfl, Nat.le_of_ble_eq_true rfl, Nat.le_of_ble_eq_true rfl⟩ ⟨Nat.zero_le _, Nat.zero_le _⟩ (fun out hq => ?_)
  obtain rfl := hq
  refine Z_mem (show _ = eRd b n (rt.1, rt.2.1, rt.2.2.1, 0) 0 0 (-1) (-1) cau from rfl) ?_
  refine Z_iconst 15 rfl ?_
  refine Z_istore_n 16 rfl rfl (Nat.le_of_ble_eq_true rfl) (lv' := [(1, .int _), (0, .ref _)]) rfl ?_
  refine Z_pick [0, 1] (lv' := [(0, .ref _), (1, .int _)]) rfl ?_
  exact lp_D_readTape l b n hn hbt 122 0 0 (rt.1, rt.2.1, rt.2.2.1, 0) cs0 0 (-1) (-1) cau (by omega) (by omega) (by omega) (by omega) ⟨⟨⟨⟨Int.le_refl 0, (show (0 : Int) ≤ 12 by omega)⟩, hT.1.2⟩, (show (0 : Int) ≤ 360 by omega), fun k k1 k2 => by have : k < 0 := k2; omega⟩, rfl, Int.le_refl 0, Or.inl ⟨rfl, fun j j1 j2 => by have : j < 0 := j2; omega, rfl, fun i i1 i2 => by have : i < 0 := i2; omega⟩⟩ rfl rfl
end D2
section C12
variable (l : Launch) (p : PS) (rj : RJ) (s : SS) (w : WW) (g : RR) (q q2 : Int × Int) (sm co : Int → Int)
noncomputable def camP (p : PS) (t' : TT) : PS := (t', p.s, p.pt, p.ps, p.ip, (camF p.tb p.ts p.lc).2, p.tb, 0, p.rp, p.rz)
theorem c_C_cam (h : PV p) (hrj : TV rj.1) : Con l M_C_cam R_C_cam 0 0 false [.ref 0] (eC p rj s w g q q2 sm co) (zAi (camF p.tb p.ts p.lc).1 (fun m => ∃ t' rj', TV t' ∧ TV rj'.1 ∧ (camOk p.tb p.ts → Ag t' (tpI p.tb p.ts 0 cs0).2.2.2) ∧ (¬ camOk p.tb p.ts → t' = p.t) ∧ EC rj' (camP p t') m)) := by
  have hts := h.2.2.2.2.2.2.1
  have htb := h.2.2.2.2.2.1
  refine Con.of_Z (by decide) D_C_cam (Nat.le_of_ble_eq_true rfl) ?_
  refine Z_aload_n 0 rfl rfl rfl ?_
  refine Z_get 1 rfl f_C_35 rfl rfl ?_
  refine Z_callVb (M' := M_D_readTape) 2 [11, 12, 13, 14, 15, 16, 27, 31, 32, 33, 34, 35, 36, 37, 38, 39, 40, 41, 42, 43, 28, 29, 30] rfl l_C_339 C_D_readTape (c_D_readTape l p.tb p.ts rj.1 rj.2.2.1 rj.2.2.2.1 rj.2.2.2.2.1 rj.2.2.2.2.2 rj.2.1 hts htb hrj) ⟨by decide, (zEL.c (Or.inl rfl) (zEL.c (Or.inl rfl) (zEL.c (Or.inl rfl) (zEL.c (Or.inl rfl) (zEL.c (Or.inl rfl) (zEL.c (Or.inl rfl) (zEL.c (Or.inl rfl) (zEL.c (Or.inl rfl) (zEL.c (Or.inl rfl) (zEL.c (Or.inl rfl) (zEL.c (Or.inl rfl) (zEL.c (Or.inl rfl) (zEL.c (Or.inl rfl) (zEL.c (Or.inl rfl) (zEL.c (Or.inl rfl) (zEL.c (Or.inl rfl) (zEL.c (Or.inl rfl) (zEL.c (Or.inl rfl) (zEL.c (Or.inl rfl) (zEL.c (Or.inl rfl) (zEL.c (Or.inl rfl) (zEL.c (Or.inl rfl) (zEL.c (Or.inl rfl) zEL.n)))))))))))))))))))))))⟩ (Or.inl ⟨_, _, _, _, rfl, rfl⟩) rfl rfl rfl (Nat.le_of_ble_eq_true rfl) ⟨rfl, rfl, Nat.le_of_ble_eq_true rfl, Nat.le_of_ble_eq_true rfl⟩ ⟨Nat.zero_le _, Nat.zero_le _⟩ (fun out hq => ?_)
  obtain ⟨rt', pl', pc', fa', un', ca', rfl, hT', hy, hz⟩ := hq
  refine Z_mem (show _ = eC p (rt', pl', pc', fa', un', ca') s w g q q2 sm co from rfl) ?_
  refine Z_istore_n 3 rfl rfl (Nat.le_of_ble_eq_true rfl) (lv' := [(1, .int _), (0, .ref _)]) rfl ?_
  refine Z_aload_n 4 rfl rfl rfl ?_
  refine Z_get 5 rfl f_C_35 rfl rfl ?_
  refine Z_callVv (M' := M_D_empty) 6 [11, 12, 13, 14, 15, 16] rfl l_C_336 C_D_empty (c_D_empty l p.tb p.ts (rt', pl', pc', fa', un', ca')) ⟨by decide, (zEL.c (Or.inl rfl) (zEL.c (Or.inl rfl) (zEL.c (Or.inl rfl) (zEL.c (Or.inl rfl) (zEL.c (Or.inl rfl) (zEL.c (Or.inl rfl) zEL.n))))))⟩ (Or.inl ⟨_, _, _, _, rfl, rfl⟩) rfl rfl rfl (Nat.le_of_ble_eq_true rfl) ⟨rfl, rfl, Nat.le_of_ble_eq_true rfl, Nat.le_of_ble_eq_true rfl⟩ ⟨Nat.zero_le _, Nat.zero_le _⟩ (fun out hq => ?_)
  obtain rfl := hq
  refine Z_mem (show _ = eC ((p.1, p.2.1, p.2.2.1, p.2.2.2.1, p.2.2.2.2.1, p.2.2.2.2.2.1, p.tb, 0, p.2.2.2.2.2.2.2.2)) (rt', pl', pc', fa', un', ca') s w g q q2 sm co from rfl) ?_
  refine Z_iload_n 7 rfl rfl rfl ?_
  refine Z_ifb_eq 8 rfl (tgt := 29) rfl (fun c16 => ?_) (fun c16 => ?_)
  · refine Z_aload_n 13 rfl rfl rfl ?_
    refine Z_aload_n 14 rfl rfl rfl ?_
    refine Z_get 15 rfl f_C_35 rfl rfl ?_
    refine Z_getN 16 rfl f_C_345 rfl rfl ?_
    refine Z_put 17 rfl f_C_39 rfl (Nat.le_of_ble_eq_true rfl) (fun _ => ⟨rfl, rfl⟩) (fs' := []) (mem' := eC (p.1, p.2.1, p.2.2.1, p.2.2.2.1, p.2.2.2.2.1, ca', p.tb, 0, p.2.2.2.2.2.2.2.2) (rt', pl', pc', fa', un', ca') s w g q q2 sm co) rfl ?_
    refine Z_iload_n 18 rfl rfl rfl ?_
    refine Z_ifb_eq 19 rfl (tgt := 58) rfl (fun c41 => ?_) (fun c41 => ?_)
    · refine Z_bipush 26 rfl rfl ?_
      refine Z_aload_n 27 rfl rfl rfl ?_
      refine Z_get 28 rfl f_C_35 rfl rfl ?_
      refine Z_getN 29 rfl f_C_348 rfl rfl ?_
      refine Z_isub 30 rfl ?_
      refine Z_iret 31 rfl rfl ⟨Nat.le_refl _, Nat.le_refl _⟩ ?_
      first
        | exact absurd c16 (by assumption)
        | exact absurd (by assumption) c16
        | (have e1 := hz (by omega)
           have hF : camF p.tb p.ts p.lc = (-100 - (tpI p.tb p.ts 0 cs0).2.1, (tpI p.tb p.ts 0 cs0).2.2.1) := by unfold camF; rw [cif_t (by omega)]
           exact ⟨by rw [hF, ← e1.1] <;> rfl, p.t, (rt', pl', pc', fa', un', ca'), h.1, hT', fun y => absurd y.1 c16, fun _ => rfl, s, w, g, q, q2, sm, co, by unfold camP; rw [hF, ← e1.2] <;> rfl⟩)
        | (have e2 := hRI.2.2.2.resolve_left (fun z => by have := z.1; omega)
           have hF : camF p.tb p.ts p.lc = (-300 - un', ca') := by unfold camF; rw [cif_f c16, cif_f (by omega), eU, ← e2.2]
           exact ⟨by rw [hF] <;> rfl, p.t, (rt', pl', pc', fa', un', ca'), h.1, hT', fun y => by have := y.2; omega, fun _ => rfl, s, w, g, q, q2, sm, co, by unfold camP; rw [hF] <;> rfl⟩)
    · refine Z_sipush 20 rfl rfl ?_
      refine Z_aload_n 21 rfl rfl rfl ?_
      refine Z_get 22 rfl f_C_35 rfl rfl ?_
      refine Z_getN 23 rfl f_C_342 rfl rfl ?_
      refine Z_isub 24 rfl ?_
      refine Z_goto 25 rfl (tgt := 68) rfl ?_
      refine Z_iret 31 rfl rfl ⟨Nat.le_refl _, Nat.le_refl _⟩ ?_
      first
        | exact absurd c16 (by assumption)
        | exact absurd (by assumption) c16
        | (have e1 := hz (by omega)
           have hF : camF p.tb p.ts p.lc = (-100 - (tpI p.tb p.ts 0 cs0).2.1, (tpI p.tb p.ts 0 cs0).2.2.1) := by unfold camF; rw [cif_t (by omega)]
           exact ⟨by rw [hF, ← e1.1] <;> rfl, p.t, (rt', pl', pc', fa', un', ca'), h.1, hT', fun y => absurd y.1 c16, fun _ => rfl, s, w, g, q, q2, sm, co, by unfold camP; rw [hF, ← e1.2] <;> rfl⟩)
        | (have e2 := hRI.2.2.2.resolve_left (fun z => by have := z.1; omega)
           have hF : camF p.tb p.ts p.lc = (-300 - un', ca') := by unfold camF; rw [cif_f c16, cif_f (by omega), eU, ← e2.2]
           exact ⟨by rw [hF] <;> rfl, p.t, (rt', pl', pc', fa', un', ca'), h.1, hT', fun y => by have := y.2; omega, fun _ => rfl, s, w, g, q, q2, sm, co, by unfold camP; rw [hF] <;> rfl⟩)
  · have hRI := hy c16
    have hU : IsUf (tpI p.tb p.ts 0 cs0).2.2.2 un' := by
      rcases hRI.2.2.2 with z | z
      · exact Or.inl ⟨z.1, z.2.1⟩
      · exact Or.inr z.1
    have eU := ufI_eq hU
    have hun : -1 ≤ un' ∧ un' ≤ 2147483647 := by
      rcases hRI.2.2.2 with z | z
      · omega
      · have := z.1.1
        rcases Int.lt_or_le 12 un' with y | y
        · exact absurd rfl (z.1.2.2.2 12 (by omega) y).1
        · omega
    refine Z_aload_n 9 rfl rfl rfl ?_
    refine Z_get 10 rfl f_C_35 rfl rfl ?_
    refine Z_getN 11 rfl f_C_342 rfl rfl ?_
    refine Z_ci (show _ = un' from rfl) ?_
    refine Z_if_lt 12 rfl (tgt := 69) rfl (by omega) (fun c26 => ?_) (fun c26 => ?_)
    · refine Z_aload_n 32 rfl rfl rfl ?_
      refine Z_get 33 rfl f_C_14 rfl rfl ?_
      refine Z_aload_n 34 rfl rfl rfl ?_
      refine Z_get 35 rfl f_C_35 rfl rfl ?_
      refine Z_getN 36 rfl f_C_351 rfl rfl ?_
      refine Z_callVv (M' := M_T_become) 37 [1, 2, 3, 4, 13, 14, 15, 16] rfl l_C_354 C_T_become (c_T_become l p.t rt') ⟨by decide, (zEL.c (Or.inl rfl) (zEL.c (Or.inl rfl) (zEL.c (Or.inl rfl) (zEL.c (Or.inl rfl) (zEL.c (Or.inl rfl) (zEL.c (Or.inl rfl) (zEL.c (Or.inl rfl) (zEL.c (Or.inl rfl) zEL.n))))))))⟩ (Or.inl ⟨_, _, _, _, rfl, rfl⟩) rfl rfl rfl (Nat.le_of_ble_eq_true rfl) ⟨rfl, rfl, Nat.le_of_ble_eq_true rfl, Nat.le_of_ble_eq_true rfl⟩ ⟨Nat.zero_le _, Nat.zero_le _⟩ (fun out hq => ?_)
      obtain rfl := hq
      refine Z_mem (show _ = eC (tCp p.t rt', p.2.1, p.2.2.1, p.2.2.2.1, p.2.2.2.2.1, p.2.2.2.2.2.1, p.tb, 0, p.2.2.2.2.2.2.2.2) (rt', pl', pc', fa', un', ca') s w g q q2 sm co from rfl) ?_
      refine Z_aload_n 38 rfl rfl rfl ?_
      refine Z_get 39 rfl f_C_14 rfl rfl ?_
      refine Z_callVip (M' := M_T_size) 40 [1, 2, 3, 4] rfl l_C_111 C_T_size (c_T_size l (tCp p.t rt')) ⟨by decide, (zEL.c (Or.inl rfl) (zEL.c (Or.inl rfl) (zEL.c (Or.inl rfl) (zEL.c (Or.inl rfl) zEL.n))))⟩ (Or.inl ⟨_, _, _, _, rfl, rfl⟩) rfl rfl rfl (Nat.le_of_ble_eq_true rfl) ⟨rfl, rfl, Nat.le_of_ble_eq_true rfl, Nat.le_of_ble_eq_true rfl⟩ ⟨Nat.zero_le _, Nat.zero_le _⟩ ?_
      refine Z_iret 41 rfl rfl ⟨Nat.le_refl _, Nat.le_refl _⟩ ?_
      have e2 := hRI.2.2.2.resolve_right (fun z => by have := z.1.1; omega)
      have hF : camF p.tb p.ts p.lc = ((tpI p.tb p.ts 0 cs0).2.2.2.2.2.2, p.lc) := by unfold camF; rw [cif_f c16, cif_t (by omega)]
      have h12 := hT'.1.1
      exact ⟨by rw [hF, ← e2.2.2.1] <;> rfl, tCp p.t rt', (rt', pl', pc', fa', un', ca'), TV_cp h.1 hT', hT', fun _ => ⟨e2.2.2.1, fun i i1 i2 => by
        have hi : i < rt'.2.2.2 := i2
        have hc : ∀ F G : Int → Int, cpI F G 12 i = F i := fun F G => by unfold cpI; rw [if_pos (by omega)]
        show cpI rt'.1 p.t.1 12 i = _ ∧ cpI rt'.2.1 p.t.2.1 12 i = _ ∧ cpI rt'.2.2.1 p.t.2.2.1 12 i = _
        rw [hc, hc, hc]
        exact e2.2.2.2 i i1 hi⟩, fun y => absurd ⟨c16, by omega⟩ y, s, w, g, q, q2, sm, co, by unfold camP; rw [hF] <;> rfl⟩
    · refine Z_aload_n 13 rfl rfl rfl ?_
      refine Z_aload_n 14 rfl rfl rfl ?_
      refine Z_get 15 rfl f_C_35 rfl rfl ?_
      refine Z_getN 16 rfl f_C_345 rfl rfl ?_
      refine Z_put 17 rfl f_C_39 rfl (Nat.le_of_ble_eq_true rfl) (fun _ => ⟨rfl, rfl⟩) (fs' := []) (mem' := eC (p.1, p.2.1, p.2.2.1, p.2.2.2.1, p.2.2.2.2.1, ca', p.tb, 0, p.2.2.2.2.2.2.2.2) (rt', pl', pc', fa', un', ca') s w g q q2 sm co) rfl ?_
      refine Z_iload_n 18 rfl rfl rfl ?_
      refine Z_ifb_eq 19 rfl (tgt := 58) rfl (fun c41 => ?_) (fun c41 => ?_)
      · refine Z_bipush 26 rfl rfl ?_
        refine Z_aload_n 27 rfl rfl rfl ?_
        refine Z_get 28 rfl f_C_35 rfl rfl ?_
        refine Z_getN 29 rfl f_C_348 rfl rfl ?_
        refine Z_isub 30 rfl ?_
        refine Z_iret 31 rfl rfl ⟨Nat.le_refl _, Nat.le_refl _⟩ ?_
        first
          | exact absurd c16 (by assumption)
          | exact absurd (by assumption) c16
          | (have e1 := hz (by omega)
             have hF : camF p.tb p.ts p.lc = (-100 - (tpI p.tb p.ts 0 cs0).2.1, (tpI p.tb p.ts 0 cs0).2.2.1) := by unfold camF; rw [cif_t (by omega)]
             exact ⟨by rw [hF, ← e1.1] <;> rfl, p.t, (rt', pl', pc', fa', un', ca'), h.1, hT', fun y => absurd y.1 c16, fun _ => rfl, s, w, g, q, q2, sm, co, by unfold camP; rw [hF, ← e1.2] <;> rfl⟩)
          | (have e2 := hRI.2.2.2.resolve_left (fun z => by have := z.1; omega)
             have hF : camF p.tb p.ts p.lc = (-300 - un', ca') := by unfold camF; rw [cif_f c16, cif_f (by omega), eU, ← e2.2]
             exact ⟨by rw [hF] <;> rfl, p.t, (rt', pl', pc', fa', un', ca'), h.1, hT', fun y => by have := y.2; omega, fun _ => rfl, s, w, g, q, q2, sm, co, by unfold camP; rw [hF] <;> rfl⟩)
      · refine Z_sipush 20 rfl rfl ?_
        refine Z_aload_n 21 rfl rfl rfl ?_
        refine Z_get 22 rfl f_C_35 rfl rfl ?_
        refine Z_getN 23 rfl f_C_342 rfl rfl ?_
        refine Z_isub 24 rfl ?_
        refine Z_goto 25 rfl (tgt := 68) rfl ?_
        refine Z_iret 31 rfl rfl ⟨Nat.le_refl _, Nat.le_refl _⟩ ?_
        first
          | exact absurd c16 (by assumption)
          | exact absurd (by assumption) c16
          | (have e1 := hz (by omega)
             have hF : camF p.tb p.ts p.lc = (-100 - (tpI p.tb p.ts 0 cs0).2.1, (tpI p.tb p.ts 0 cs0).2.2.1) := by unfold camF; rw [cif_t (by omega)]
             exact ⟨by rw [hF, ← e1.1] <;> rfl, p.t, (rt', pl', pc', fa', un', ca'), h.1, hT', fun y => absurd y.1 c16, fun _ => rfl, s, w, g, q, q2, sm, co, by unfold camP; rw [hF, ← e1.2] <;> rfl⟩)
          | (have e2 := hRI.2.2.2.resolve_left (fun z => by have := z.1; omega)
             have hF : camF p.tb p.ts p.lc = (-300 - un', ca') := by unfold camF; rw [cif_f c16, cif_f (by omega), eU, ← e2.2]
             exact ⟨by rw [hF] <;> rfl, p.t, (rt', pl', pc', fa', un', ca'), h.1, hT', fun y => by have := y.2; omega, fun _ => rfl, s, w, g, q, q2, sm, co, by unfold camP; rw [hF] <;> rfl⟩)
end C12
