/-! the model: figures, a piece -/
def FGR (b : Int → Int) (n : Int) (m : Nat) (from_ why ma mf mw rv a f w : Int) : Prop := (mf ≠ -1 ∧ rv = 0 ∧ a = ma ∧ f = mf ∧ w = mw) ∨ (mf = -1 ∧ isF (bt b n ma) ∧ rv = (fg b n m ma 0).1 ∧ a = (fg b n m ma 0).2 ∧ f = -1 ∧ w = mw) ∨ (mf = -1 ∧ ¬ isF (bt b n ma) ∧ rv = 0 ∧ a = ma ∧ f = from_ ∧ w = if from_ = n then 5 else why)
def fgV (b : Int → Int) (n : Int) (m : Nat) (ma mf : Int) : Int := if mf = -1 then (fg b n m ma 0).1 else 0
def TKR (b : Int → Int) (n c ma mf mw a f w : Int) : Prop := (mf ≠ -1 ∧ a = ma ∧ f = mf ∧ w = mw) ∨ (mf = -1 ∧ bt b n ma = c ∧ a = ma + 1 ∧ f = -1 ∧ w = mw) ∨ (mf = -1 ∧ bt b n ma ≠ c ∧ a = ma ∧ f = ma ∧ w = if ma = n then 5 else 4)
section M12
variable (l : Launch) (p : MP) (he fa li sl be ov av bl : Int) (kw sm : Int → Int)
theorem tk_x {c ma mf mw : Int} {cj : TT} {m : List zE} (h : (mf ≠ -1 ∧ m = eM p he fa li sl be ov av bl kw sm ma mf mw cj) ∨ (mf = -1 ∧ bt p.tb p.ts ma = c ∧ m = eM p he fa li sl be ov av bl kw sm (ma + 1) mf mw cj) ∨ (mf = -1 ∧ bt p.tb p.ts ma ≠ c ∧ m = eM p he fa li sl be ov av bl kw sm ma ma (if ma = p.ts then 5 else 4) cj)) : ∃ a f w, m = eM p he fa li sl be ov av bl kw sm a f w cj ∧ TKR p.tb p.ts c ma mf mw a f w := by
  unfold TKR
  rcases h with ⟨h1, e⟩ | ⟨h1, h2, e⟩ | ⟨h1, h2, e⟩
  · exact ⟨_, _, _, e, Or.inl ⟨h1, rfl, rfl, rfl⟩⟩
  · exact ⟨_, _, _, e, Or.inr (Or.inl ⟨h1, h2, rfl, h1, rfl⟩)⟩
  · exact ⟨_, _, _, e, Or.inr (Or.inr ⟨h1, h2, rfl, rfl, rfl⟩)⟩
theorem lp_M_figures (h : MV p) (m : Int) (hm : 2 ≤ m ∧ m ≤ 3) (from_ why mw : Int) (cj : TT) (T : Int × Int) (Q : List zE → Prop) (hQ : Q (eM p he fa li sl be ov av bl kw sm T.2 (-1) mw cj)) : ∀ (r : Nat) (a v c : Int), c + r = m → 0 ≤ c → (0 ≤ a ∧ a ≤ p.ts) → fg p.tb p.ts r a v = T → Z (l, M_M_figures, R_M_figures, (0, 0), false, zAi T.1 Q) 0 0 (eM p he fa li sl be ov av bl kw sm a (-1) mw cj) 43 [(0, .ref 0), (1, .int (iI m)), (2, .int (iI from_)), (3, .int (iI why)), (4, .int (iI v)), (5, .int (iI c))] [] := by
  have hts := h.2.2.2.2.2.1
  intro r
  induction r with
  | zero =>
    intro a v c h0 h1 h2 h3
    have h3' : (v, a) = T := h3
    refine Z_aload_n 23 rfl rfl rfl ?_
    refine Z_get 24 rfl f_M_321 rfl rfl ?_
    refine Z_iconst 25 rfl ?_
    refine Z_icmp_ne 26 rfl (tgt := 104) rfl (by omega) (by omega) (fun c48 => ?_) (fun c48 => ?_)
    · exfalso; omega
    refine Z_iload 27 rfl rfl ?_
    refine Z_iload_n 28 rfl rfl rfl ?_
    refine Z_icmp_ge 29 rfl (tgt := 104) rfl (by omega) (by omega) (fun c54 => ?_) (fun c54 => ?_)
    rotate_left
    · exfalso; omega
    refine Z_iload 55 rfl rfl ?_
    refine Z_iret 56 rfl rfl ⟨Nat.le_refl _, Nat.le_refl _⟩ ?_
    exact ⟨by rw [← h3'], by rw [← h3'] at hQ; exact hQ⟩
  | succ r ih =>
    intro a v c h0 h1 h2 h3
    have hbl : isF (bt p.tb p.ts a) → a < p.ts := fun z => bt_f z
    have hbe : a < p.ts → p.tb a = bt p.tb p.ts a := fun z => by unfold bt; rw [if_pos z]
    refine Z_aload_n 23 rfl rfl rfl ?_
    refine Z_get 24 rfl f_M_321 rfl rfl ?_
    refine Z_iconst 25 rfl ?_
    refine Z_icmp_ne 26 rfl (tgt := 104) rfl (by omega) (by omega) (fun c48 => ?_) (fun c48 => ?_)
    · exfalso; omega
    refine Z_iload 27 rfl rfl ?_
    refine Z_iload_n 28 rfl rfl rfl ?_
    refine Z_icmp_ge 29 rfl (tgt := 104) rfl (by omega) (by omega) (fun c54 => ?_) (fun c54 => ?_)
    · exfalso; omega
    refine Z_aload_n 30 rfl rfl rfl ?_
    refine Z_aload_n 31 rfl rfl rfl ?_
    refine Z_get 32 rfl f_M_327 rfl rfl ?_
    refine Z_callVbp (M' := M_M_isFigure) 33 isM rfl l_M_343 C_M_isFigure (c_M_isFigure l p he fa li sl be ov av bl kw sm h a a (-1) mw cj (by omega)) (emM ..) (Or.inl ⟨_, _, _, _, rfl, rfl⟩) rfl rfl rfl (Nat.le_of_ble_eq_true rfl) ⟨rfl, rfl, Nat.le_of_ble_eq_true rfl, Nat.le_of_ble_eq_true rfl⟩ ⟨Nat.zero_le _, Nat.zero_le _⟩ ?_
    refine Z_ifb_eq 34 rfl (tgt := 104) rfl (fun c65 => ?_) (fun c65 => ?_)
    · refine Z_iload 55 rfl rfl ?_
      refine Z_iret 56 rfl rfl ⟨Nat.le_refl _, Nat.le_refl _⟩ ?_
      have h3' : (v, a) = T := by rw [← h3, fg_f c65]
      exact ⟨by rw [← h3'], by rw [← h3'] at hQ; exact hQ⟩
    · have hal := hbl c65
      refine Z_bipush 35 rfl rfl ?_
      refine Z_iload 36 rfl rfl ?_
      refine Z_imul 37 rfl ?_
      refine Z_aload_n 38 rfl rfl rfl ?_
      refine Z_get 39 rfl f_M_37 rfl rfl ?_
      refine Z_aload_n 40 rfl rfl rfl ?_
      refine Z_get 41 rfl f_M_327 rfl rfl ?_
      refine Z_ia 42 rfl rfl (by omega) (by decide) ?_
      refine Z_ci (hbe hal) ?_
      refine Z_iadd 43 rfl ?_
      refine Z_bipush 44 rfl rfl ?_
      refine Z_isub 45 rfl ?_
      refine Z_ci (show _ = v * 10 + bt p.tb p.ts a - 48 by omega) ?_
      refine Z_istore 46 rfl (Nat.le_of_ble_eq_true rfl) (lv' := [(4, .int _), (0, .ref _), (1, .int _), (2, .int _), (3, .int _), (5, .int _)]) rfl ?_
      refine Z_aload_n 47 rfl rfl rfl ?_
      refine Z_dup 48 rfl rfl ?_
      refine Z_get 49 rfl f_M_327 rfl rfl ?_
      refine Z_iconst 50 rfl ?_
      refine Z_iadd 51 rfl ?_
      refine Z_put 52 rfl f_M_327 rfl (Nat.le_of_ble_eq_true rfl) (fun _ => ⟨rfl, rfl⟩) (fs' := []) (mem' := eM p he fa li sl be ov av bl kw sm (a + 1) (-1) mw cj) rfl ?_
      refine Z_iinc 53 rfl rfl (Nat.le_of_ble_eq_true rfl) (lv' := [(5, .int _), (4, .int _), (0, .ref _), (1, .int _), (2, .int _), (3, .int _)]) rfl ?_
      refine Z_goto 54 rfl (tgt := 43) rfl ?_
      refine Z_pick [0, 1, 2, 3, 4, 5] (lv' := [(0, .ref _), (1, .int _), (2, .int _), (3, .int _), (4, .int _), (5, .int _)]) rfl ?_
      exact ih (a + 1) (v * 10 + bt p.tb p.ts a - 48) (c + 1) (by omega) (by omega) (by omega) (by rw [← h3, fg_t c65])
theorem lp0_M_figures (m from_ why a mf mw v c : Int) (cj : TT) (Q : List zE → Prop) (hQ : Q (eM p he fa li sl be ov av bl kw sm a mf mw cj)) (hf : inI mf ∧ mf ≠ -1) : Z (l, M_M_figures, R_M_figures, (0, 0), false, zAi v Q) 0 0 (eM p he fa li sl be ov av bl kw sm a mf mw cj) 43 [(0, .ref 0), (1, .int (iI m)), (2, .int (iI from_)), (3, .int (iI why)), (4, .int (iI v)), (5, .int (iI c))] [] := by
  refine Z_aload_n 23 rfl rfl rfl ?_
  refine Z_get 24 rfl f_M_321 rfl rfl ?_
  refine Z_iconst 25 rfl ?_
  refine Z_icmp_ne 26 rfl (tgt := 104) rfl (by omega) (by omega) (fun c48 => ?_) (fun c48 => ?_)
  rotate_left
  · exfalso; omega
  refine Z_iload 55 rfl rfl ?_
  refine Z_iret 56 rfl rfl ⟨Nat.le_refl _, Nat.le_refl _⟩ ?_
  exact ⟨rfl, hQ⟩
theorem c_M_figures (h : MV p) (m : Int) (M : Nat) (hM : m = M) (hm : 2 ≤ m ∧ m ≤ 3) (from_ why ma mf mw : Int) (cj : TT) (hf : inI mf) (hma : 0 ≤ ma ∧ ma ≤ p.ts) (hfr : 0 ≤ from_ ∧ from_ ≤ p.ts) (hw : inI why) : Con l M_M_figures R_M_figures 0 0 false [.ref 0, .int (iI m), .int (iI from_), .int (iI why)] (eM p he fa li sl be ov av bl kw sm ma mf mw cj) (zAi (fgV p.tb p.ts M ma mf) (fun mm => ∃ a f w, mm = eM p he fa li sl be ov av bl kw sm a f w cj ∧ FGR p.tb p.ts M from_ why ma mf mw (fgV p.tb p.ts M ma mf) a f w)) := by
  have hts := h.2.2.2.2.2.1
  obtain ⟨M', rfl⟩ : ∃ M', M = M' + 1 := ⟨M - 1, by omega⟩
  refine Con.of_Z (by decide) D_M_figures (Nat.le_of_ble_eq_true rfl) ?_
  refine Z_iconst 0 rfl ?_
  refine Z_istore 1 rfl (Nat.le_of_ble_eq_true rfl) (lv' := [(4, .int _), (0, .ref _), (1, .int _), (2, .int _), (3, .int _)]) rfl ?_
  refine Z_iconst 2 rfl ?_
  refine Z_istore 3 rfl (Nat.le_of_ble_eq_true rfl) (lv' := [(5, .int _), (4, .int _), (0, .ref _), (1, .int _), (2, .int _), (3, .int _)]) rfl ?_
  refine Z_aload_n 4 rfl rfl rfl ?_
  refine Z_get 5 rfl f_M_321 rfl rfl ?_
  refine Z_iconst 6 rfl ?_
  refine Z_icmp_ne 7 rfl (tgt := 43) rfl (by omega) (by omega) (fun cff => ?_) (fun cff => ?_)
  · refine Z_pick [0, 1, 2, 3, 4, 5] (lv' := [(0, .ref _), (1, .int _), (2, .int _), (3, .int _), (4, .int _), (5, .int _)]) rfl ?_
    first
      | (have emf : mf ≠ -1 := by omega
         have ev : fgV p.tb p.ts (M' + 1) ma mf = 0 := by unfold fgV; rw [if_neg emf]
         rw [ev]
         exact lp0_M_figures l p he fa li sl be ov av bl kw sm m from_ why ma mf mw 0 0 cj _ ⟨_, _, _, rfl, Or.inl ⟨emf, rfl, rfl, rfl, rfl⟩⟩ ⟨hf, emf⟩)
      | (have emf : mf = -1 := by omega
         have hy : isF (bt p.tb p.ts ma) := by assumption
         have ev : fgV p.tb p.ts (M' + 1) ma mf = (fg p.tb p.ts (M' + 1) ma 0).1 := by unfold fgV; rw [if_pos emf]
         rw [ev]
         rw [emf]
         exact lp_M_figures l p he fa li sl be ov av bl kw sm h m hm from_ why mw cj _ _ ⟨_, _, _, rfl, Or.inr (Or.inl ⟨rfl, hy, rfl, rfl, rfl, rfl⟩)⟩ (M' + 1) ma 0 0 (by omega) (by omega) hma rfl)
      | (have emf : mf = -1 := by omega
         have hy : ¬ isF (bt p.tb p.ts ma) := by assumption
         have ev : fgV p.tb p.ts (M' + 1) ma mf = 0 := by unfold fgV; rw [if_pos emf, fg_f hy]
         rw [ev]
         exact lp0_M_figures l p he fa li sl be ov av bl kw sm m from_ why ma from_ (if from_ = p.ts then 5 else why) 0 0 cj _ ⟨_, _, _, rfl, Or.inr (Or.inr ⟨emf, hy, rfl, rfl, rfl, rfl⟩)⟩ ⟨by omega, by omega⟩)
  · refine Z_aload_n 8 rfl rfl rfl ?_
    refine Z_aload_n 9 rfl rfl rfl ?_
    refine Z_get 10 rfl f_M_327 rfl rfl ?_
    refine Z_callVbp (M' := M_M_isFigure) 11 isM rfl l_M_343 C_M_isFigure (c_M_isFigure l p he fa li sl be ov av bl kw sm h ma ma mf mw cj (by omega)) (emM ..) (Or.inl ⟨_, _, _, _, rfl, rfl⟩) rfl rfl rfl (Nat.le_of_ble_eq_true rfl) ⟨rfl, rfl, Nat.le_of_ble_eq_true rfl, Nat.le_of_ble_eq_true rfl⟩ ⟨Nat.zero_le _, Nat.zero_le _⟩ ?_
    refine Z_ifb_ne 12 rfl (tgt := 43) rfl (fun c22 => ?_) (fun c22 => ?_)
    · refine Z_pick [0, 1, 2, 3, 4, 5] (lv' := [(0, .ref _), (1, .int _), (2, .int _), (3, .int _), (4, .int _), (5, .int _)]) rfl ?_
      first
        | (have emf : mf ≠ -1 := by omega
           have ev : fgV p.tb p.ts (M' + 1) ma mf = 0 := by unfold fgV; rw [if_neg emf]
           rw [ev]
           exact lp0_M_figures l p he fa li sl be ov av bl kw sm m from_ why ma mf mw 0 0 cj _ ⟨_, _, _, rfl, Or.inl ⟨emf, rfl, rfl, rfl, rfl⟩⟩ ⟨hf, emf⟩)
        | (have emf : mf = -1 := by omega
           have hy : isF (bt p.tb p.ts ma) := by assumption
           have ev : fgV p.tb p.ts (M' + 1) ma mf = (fg p.tb p.ts (M' + 1) ma 0).1 := by unfold fgV; rw [if_pos emf]
           rw [ev]
           rw [emf]
           exact lp_M_figures l p he fa li sl be ov av bl kw sm h m hm from_ why mw cj _ _ ⟨_, _, _, rfl, Or.inr (Or.inl ⟨rfl, hy, rfl, rfl, rfl, rfl⟩)⟩ (M' + 1) ma 0 0 (by omega) (by omega) hma rfl)
        | (have emf : mf = -1 := by omega
           have hy : ¬ isF (bt p.tb p.ts ma) := by assumption
           have ev : fgV p.tb p.ts (M' + 1) ma mf = 0 := by unfold fgV; rw [if_pos emf, fg_f hy]
           rw [ev]
           exact lp0_M_figures l p he fa li sl be ov av bl kw sm m from_ why ma from_ (if from_ = p.ts then 5 else why) 0 0 cj _ ⟨_, _, _, rfl, Or.inr (Or.inr ⟨emf, hy, rfl, rfl, rfl, rfl⟩)⟩ ⟨by omega, by omega⟩)
    · refine Z_aload_n 13 rfl rfl rfl ?_
      refine Z_iload_n 14 rfl rfl rfl ?_
      refine Z_iload_n 15 rfl rfl rfl ?_
      refine Z_aload_n 16 rfl rfl rfl ?_
      refine Z_get 17 rfl f_M_123 rfl rfl ?_
      refine Z_icmp_ne 18 rfl (tgt := 39) rfl (by omega) (by omega) (fun c32 => ?_) (fun c32 => ?_)
      · refine Z_iload_n 21 rfl rfl rfl ?_
        refine Z_ci (show _ = (if from_ = p.ts then 5 else why) by first | (rw [if_pos (by omega)] <;> rfl) | (rw [if_neg (by omega)] <;> rfl)) ?_
        refine Z_callVv (M' := M_M_fails) 22 isM rfl l_M_330 C_M_fails (c_M_fails l p he fa li sl be ov av bl kw sm ma mf mw from_ (if from_ = p.ts then 5 else why) cj hf) (emM ..) (Or.inl ⟨_, _, _, _, rfl, rfl⟩) rfl rfl rfl (Nat.le_of_ble_eq_true rfl) ⟨rfl, rfl, Nat.le_of_ble_eq_true rfl, Nat.le_of_ble_eq_true rfl⟩ ⟨Nat.zero_le _, Nat.zero_le _⟩ (fun out hq => ?_)
        obtain rfl := hq
        refine Z_mem (mgM ..) ?_
        rw [show flM mf from_ mf = from_ by unfold flM; rw [if_pos (by omega)], show flM mf (if from_ = p.ts then 5 else why) mw = (if from_ = p.ts then 5 else why) by unfold flM; rw [if_pos (by omega)]]
        refine Z_pick [0, 1, 2, 3, 4, 5] (lv' := [(0, .ref _), (1, .int _), (2, .int _), (3, .int _), (4, .int _), (5, .int _)]) rfl ?_
        first
          | (have emf : mf ≠ -1 := by omega
             have ev : fgV p.tb p.ts (M' + 1) ma mf = 0 := by unfold fgV; rw [if_neg emf]
             rw [ev]
             exact lp0_M_figures l p he fa li sl be ov av bl kw sm m from_ why ma mf mw 0 0 cj _ ⟨_, _, _, rfl, Or.inl ⟨emf, rfl, rfl, rfl, rfl⟩⟩ ⟨hf, emf⟩)
          | (have emf : mf = -1 := by omega
             have hy : isF (bt p.tb p.ts ma) := by assumption
             have ev : fgV p.tb p.ts (M' + 1) ma mf = (fg p.tb p.ts (M' + 1) ma 0).1 := by unfold fgV; rw [if_pos emf]
             rw [ev]
             rw [emf]
             exact lp_M_figures l p he fa li sl be ov av bl kw sm h m hm from_ why mw cj _ _ ⟨_, _, _, rfl, Or.inr (Or.inl ⟨rfl, hy, rfl, rfl, rfl, rfl⟩)⟩ (M' + 1) ma 0 0 (by omega) (by omega) hma rfl)
          | (have emf : mf = -1 := by omega
             have hy : ¬ isF (bt p.tb p.ts ma) := by assumption
             have ev : fgV p.tb p.ts (M' + 1) ma mf = 0 := by unfold fgV; rw [if_pos emf, fg_f hy]
             rw [ev]
             exact lp0_M_figures l p he fa li sl be ov av bl kw sm m from_ why ma from_ (if from_ = p.ts then 5 else why) 0 0 cj _ ⟨_, _, _, rfl, Or.inr (Or.inr ⟨emf, hy, rfl, rfl, rfl, rfl⟩)⟩ ⟨by omega, by omega⟩)
      · refine Z_iconst 19 rfl ?_
        refine Z_goto 20 rfl (tgt := 40) rfl ?_
        refine Z_ci (show _ = (if from_ = p.ts then 5 else why) by first | (rw [if_pos (by omega)] <;> rfl) | (rw [if_neg (by omega)] <;> rfl)) ?_
        refine Z_callVv (M' := M_M_fails) 22 isM rfl l_M_330 C_M_fails (c_M_fails l p he fa li sl be ov av bl kw sm ma mf mw from_ (if from_ = p.ts then 5 else why) cj hf) (emM ..) (Or.inl ⟨_, _, _, _, rfl, rfl⟩) rfl rfl rfl (Nat.le_of_ble_eq_true rfl) ⟨rfl, rfl, Nat.le_of_ble_eq_true rfl, Nat.le_of_ble_eq_true rfl⟩ ⟨Nat.zero_le _, Nat.zero_le _⟩ (fun out hq => ?_)
        obtain rfl := hq
        refine Z_mem (mgM ..) ?_
        rw [show flM mf from_ mf = from_ by unfold flM; rw [if_pos (by omega)], show flM mf (if from_ = p.ts then 5 else why) mw = (if from_ = p.ts then 5 else why) by unfold flM; rw [if_pos (by omega)]]
        refine Z_pick [0, 1, 2, 3, 4, 5] (lv' := [(0, .ref _), (1, .int _), (2, .int _), (3, .int _), (4, .int _), (5, .int _)]) rfl ?_
        first
          | (have emf : mf ≠ -1 := by omega
             have ev : fgV p.tb p.ts (M' + 1) ma mf = 0 := by unfold fgV; rw [if_neg emf]
             rw [ev]
             exact lp0_M_figures l p he fa li sl be ov av bl kw sm m from_ why ma mf mw 0 0 cj _ ⟨_, _, _, rfl, Or.inl ⟨emf, rfl, rfl, rfl, rfl⟩⟩ ⟨hf, emf⟩)
          | (have emf : mf = -1 := by omega
             have hy : isF (bt p.tb p.ts ma) := by assumption
             have ev : fgV p.tb p.ts (M' + 1) ma mf = (fg p.tb p.ts (M' + 1) ma 0).1 := by unfold fgV; rw [if_pos emf]
             rw [ev]
             rw [emf]
             exact lp_M_figures l p he fa li sl be ov av bl kw sm h m hm from_ why mw cj _ _ ⟨_, _, _, rfl, Or.inr (Or.inl ⟨rfl, hy, rfl, rfl, rfl, rfl⟩)⟩ (M' + 1) ma 0 0 (by omega) (by omega) hma rfl)
          | (have emf : mf = -1 := by omega
             have hy : ¬ isF (bt p.tb p.ts ma) := by assumption
             have ev : fgV p.tb p.ts (M' + 1) ma mf = 0 := by unfold fgV; rw [if_pos emf, fg_f hy]
             rw [ev]
             exact lp0_M_figures l p he fa li sl be ov av bl kw sm m from_ why ma from_ (if from_ = p.ts then 5 else why) 0 0 cj _ ⟨_, _, _, rfl, Or.inr (Or.inr ⟨emf, hy, rfl, rfl, rfl, rfl⟩)⟩ ⟨by omega, by omega⟩)
end M12
