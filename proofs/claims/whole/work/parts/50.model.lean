/-! the model: its object, what stands at an angle -/
abbrev MP : Type := TT × (Int → Int) × (Int → Int) × Int × Int × (Int → Int) × (Int → Int) × TT × (Int → Int)
abbrev MP.t (p : MP) : TT := p.1
abbrev MP.s (p : MP) : Int → Int := p.2.1
abbrev MP.tb (p : MP) : Int → Int := p.2.2.1
abbrev MP.ts (p : MP) : Int := p.2.2.2.1
abbrev MP.lc (p : MP) : Int := p.2.2.2.2.1
abbrev MP.rp (p : MP) : Int → Int := p.2.2.2.2.2.1
abbrev MP.rz (p : MP) : Int → Int := p.2.2.2.2.2.2.1
abbrev MP.pt (p : MP) : TT := p.2.2.2.2.2.2.2.1
abbrev MP.ps (p : MP) : Int → Int := p.2.2.2.2.2.2.2.2
def moM (i : Int) : Int := if i = 0 then 999 else if i = 1 then 20 else if i = 2 then 99 else if i = 3 then 9999 else if i = 4 then 30 else if i = 5 then 1000 else 0
def wdF (i : Int) : Int := stB (i / 7).toNat (i % 7)
def eM (p : MP) (he fa li sl be ov av bl : Int) (kw sm : Int → Int) (ma mf mw : Int) (cj : TT) : List zE := [
  zO 8 [.int (iI p.t.2.2.2), .ref 1, .ref 2, .ref 3, .ref 4, .ref 5, .ref 6, .int (iI he), .int (iI fa), .long (lI li), .long (lI sl), .long (lI be), .long (lI ov), .long (lI av), .long (lI bl), .ref 7, .ref 8, .ref 9, .int (iI p.ts), .int (iI ma), .int (iI mf), .int (iI mw), .int (iI p.lc), .int (iI cj.2.2.2), .ref 10, .ref 11, .ref 12, .ref 13, .ref 14, .ref 15, .int (iI p.pt.2.2.2), .ref 16, .ref 17, .ref 18, .ref 19],
  aI 13 p.t.1, aI 13 p.t.2.1, aI 13 p.t.2.2.1, aI 6 p.s, aI 6 leF, aI 6 moM, aI 13 kw, aL 361 sm, aI 120 p.tb, aI 120 cj.1, aI 120 cj.2.1, aI 120 cj.2.2.1, aI 42 wdF, aI 4 p.rz, aL 120 p.rp, aI 12 p.pt.1, aI 12 p.pt.2.1, aI 12 p.pt.2.2.1, aI 6 p.ps]
def isM : List Nat := [0, 1, 2, 3, 4, 5, 6, 7, 8, 9, 10, 11, 12, 13, 14, 15, 16, 17, 18, 19]
theorem emM (p : MP) (he fa li sl be ov av bl : Int) (kw sm : Int → Int) (ma mf mw : Int) (cj : TT) : zEmb isM (eM p he fa li sl be ov av bl kw sm ma mf mw cj) (eM p he fa li sl be ov av bl kw sm ma mf mw cj) := ⟨by decide +kernel, (zEL.c (Or.inl rfl) (zEL.c (Or.inl rfl) (zEL.c (Or.inl rfl) (zEL.c (Or.inl rfl) (zEL.c (Or.inl rfl) (zEL.c (Or.inl rfl) (zEL.c (Or.inl rfl) (zEL.c (Or.inl rfl) (zEL.c (Or.inl rfl) (zEL.c (Or.inl rfl) (zEL.c (Or.inl rfl) (zEL.c (Or.inl rfl) (zEL.c (Or.inl rfl) (zEL.c (Or.inl rfl) (zEL.c (Or.inl rfl) (zEL.c (Or.inl rfl) (zEL.c (Or.inl rfl) (zEL.c (Or.inl rfl) (zEL.c (Or.inl rfl) (zEL.c (Or.inl rfl) zEL.n))))))))))))))))))))⟩
theorem isM_at : ∀ j, j < isM.length → isM[j]? = some j := by decide +kernel
theorem isM_nd : isM.Nodup := by decide +kernel
theorem mgM (p p' : MP) (he he' fa fa' li li' sl sl' be be' ov ov' av av' bl bl' : Int) (kw kw' sm sm' : Int → Int) (ma ma' mf mf' mw mw' : Int) (cj cj' : TT) : zMg (zr isM) isM (eM p' he' fa' li' sl' be' ov' av' bl' kw' sm' ma' mf' mw' cj') (eM p he fa li sl be ov av bl kw sm ma mf mw cj) = eM p' he' fa' li' sl' be' ov' av' bl' kw' sm' ma' mf' mw' cj' :=
  mg_all isM_at rfl isM_nd ⟨⟨rfl, fun z => by cases z⟩, ⟨⟨rfl, fun z => by cases z⟩, ⟨⟨rfl, fun z => by cases z⟩, ⟨⟨rfl, fun z => by cases z⟩, ⟨⟨rfl, fun z => by cases z⟩, ⟨⟨rfl, fun z => by cases z⟩, ⟨⟨rfl, fun z => by cases z⟩, ⟨⟨rfl, fun z => by cases z⟩, ⟨⟨rfl, fun z => by cases z⟩, ⟨⟨rfl, fun z => by cases z⟩, ⟨⟨rfl, fun z => by cases z⟩, ⟨⟨rfl, fun z => by cases z⟩, ⟨⟨rfl, fun z => by cases z⟩, ⟨⟨rfl, fun z => by cases z⟩, ⟨⟨rfl, fun z => by cases z⟩, ⟨⟨rfl, fun z => by cases z⟩, ⟨⟨rfl, fun z => by cases z⟩, ⟨⟨rfl, fun z => by cases z⟩, ⟨⟨rfl, fun z => by cases z⟩, ⟨⟨rfl, fun z => by cases z⟩, trivial⟩⟩⟩⟩⟩⟩⟩⟩⟩⟩⟩⟩⟩⟩⟩⟩⟩⟩⟩⟩
def MV (p : MP) : Prop := TV p.t ∧ SB p.s ∧ (p.pt.2.2.2 = -1 ∨ (TV p.pt ∧ SB p.ps)) ∧ (-5 ≤ p.lc ∧ p.lc ≤ 7) ∧ (∀ i, 0 ≤ p.tb i ∧ p.tb i ≤ 127) ∧ (0 ≤ p.ts ∧ p.ts ≤ 120) ∧ (∀ i, inL (p.rp i)) ∧ ZB p.rz
theorem c_M_in (l : Launch) (x a b : Int) (hx : inL x) (ha : inL a) (hb : inL b) : Con l M_M_in R_M_in 0 0 false [.long (lI x), .long (lI a), .long (lI b)] [] (zAb (a ≤ x ∧ x ≤ b) (fun m => m = [])) := by
  refine Con.of_Z (by decide) D_M_in (Nat.le_of_ble_eq_true rfl) ?_
  refine Z_lload_n 0 rfl rfl rfl ?_
  refine Z_lload_n 1 rfl rfl rfl ?_
  refine Z_lc_lt 2 rfl rfl (tgt := 17) rfl (by omega) (by omega) (fun c2 => ?_) (fun c2 => ?_)
  · refine Z_iconst 10 rfl ?_
    refine Z_zret 11 rfl rfl rfl ⟨Nat.le_refl _, Nat.le_refl _⟩ ?_
    exact ⟨by first | rw [bI_t (by omega)] | rw [bI_f (by omega)], rfl⟩
  · refine Z_lload_n 4 rfl rfl rfl ?_
    refine Z_lload 5 rfl rfl ?_
    refine Z_lc_gt 6 rfl rfl (tgt := 17) rfl (by omega) (by omega) (fun c9 => ?_) (fun c9 => ?_)
    · refine Z_iconst 10 rfl ?_
      refine Z_zret 11 rfl rfl rfl ⟨Nat.le_refl _, Nat.le_refl _⟩ ?_
      exact ⟨by first | rw [bI_t (by omega)] | rw [bI_f (by omega)], rfl⟩
    · refine Z_iconst 8 rfl ?_
      refine Z_goto 9 rfl (tgt := 18) rfl ?_
      refine Z_zret 11 rfl rfl rfl ⟨Nat.le_refl _, Nat.le_refl _⟩ ?_
      exact ⟨by first | rw [bI_t (by omega)] | rw [bI_f (by omega)], rfl⟩
def isR (k r : Int) : Prop := (k = 0 ∧ r = 0) ∨ (k ≠ 0 ∧ (-99 ≤ r ∧ r ≤ 99) ∧ r ≠ 0)
theorem c_M_isRise (l : Launch) (k r : Int) (hk : inI k) (hr : inI r) : Con l M_M_isRise R_M_isRise 0 0 false [.int (iI k), .int (iI r)] [] (zAb (isR k r) (fun m => m = [])) := by
  refine Con.of_Z (by decide) D_M_isRise (Nat.le_of_ble_eq_true rfl) ?_
  refine Z_iload_n 0 rfl rfl rfl ?_
  refine Z_if_ne 1 rfl (tgt := 16) rfl (by omega) (fun c1 => ?_) (fun c1 => ?_)
  · refine Z_iload_n 8 rfl rfl rfl ?_
    refine Z_i2l 9 rfl (by omega) ?_
    refine Z_ldc2 10 rfl k_M_84 (c := -99) rfl ?_
    refine Z_ldc2 11 rfl k_M_86 (c := 99) rfl ?_
    refine Z_callSbp (M' := M_M_in) 12 [] rfl l_M_80 C_M_in (c_M_in l _ _ _ (by omega) (by omega) (by omega)) ⟨List.nodup_nil, zEL.n⟩ rfl rfl rfl (Nat.le_of_ble_eq_true rfl) ⟨rfl, rfl, Nat.le_of_ble_eq_true rfl, Nat.le_of_ble_eq_true rfl⟩ ⟨Nat.zero_le _, Nat.zero_le _⟩ ?_
    refine Z_ifb_eq 13 rfl (tgt := 38) rfl (fun c27 => ?_) (fun c27 => ?_)
    · refine Z_iconst 18 rfl ?_
      refine Z_zret 19 rfl rfl rfl ⟨Nat.le_refl _, Nat.le_refl _⟩ ?_
      first | exact ⟨bT (by unfold isR; omega), rfl⟩ | exact ⟨bF (by unfold isR; omega), rfl⟩
    · refine Z_iload_n 14 rfl rfl rfl ?_
      refine Z_if_eq 15 rfl (tgt := 38) rfl (by omega) (fun c31 => ?_) (fun c31 => ?_)
      · refine Z_iconst 18 rfl ?_
        refine Z_zret 19 rfl rfl rfl ⟨Nat.le_refl _, Nat.le_refl _⟩ ?_
        first | exact ⟨bT (by unfold isR; omega), rfl⟩ | exact ⟨bF (by unfold isR; omega), rfl⟩
      · refine Z_iconst 16 rfl ?_
        refine Z_goto 17 rfl (tgt := 39) rfl ?_
        refine Z_zret 19 rfl rfl rfl ⟨Nat.le_refl _, Nat.le_refl _⟩ ?_
        first | exact ⟨bT (by unfold isR; omega), rfl⟩ | exact ⟨bF (by unfold isR; omega), rfl⟩
  · refine Z_iload_n 2 rfl rfl rfl ?_
    refine Z_if_ne 3 rfl (tgt := 12) rfl (by omega) (fun c5 => ?_) (fun c5 => ?_)
    · refine Z_iconst 6 rfl ?_
      refine Z_goto 7 rfl (tgt := 39) rfl ?_
      refine Z_zret 19 rfl rfl rfl ⟨Nat.le_refl _, Nat.le_refl _⟩ ?_
      first | exact ⟨bT (by unfold isR; omega), rfl⟩ | exact ⟨bF (by unfold isR; omega), rfl⟩
    · refine Z_iconst 4 rfl ?_
      refine Z_goto 5 rfl (tgt := 39) rfl ?_
      refine Z_zret 19 rfl rfl rfl ⟨Nat.le_refl _, Nat.le_refl _⟩ ?_
      first | exact ⟨bT (by unfold isR; omega), rfl⟩ | exact ⟨bF (by unfold isR; omega), rfl⟩
theorem c_M_fifth (l : Launch) (n : Int) : Con l M_M_fifth R_M_fifth 0 0 false [.long (lI n)] [] (zAl (o5 n) (fun m => m = [])) := by
  refine Con.of_Z (by decide) D_M_fifth (Nat.le_of_ble_eq_true rfl) ?_
  refine Z_lload_n 0 rfl rfl rfl ?_
  refine Z_lload_n 1 rfl rfl rfl ?_
  refine Z_lmul 2 rfl ?_
  refine Z_lload_n 3 rfl rfl rfl ?_
  refine Z_lmul 4 rfl ?_
  refine Z_lload_n 5 rfl rfl rfl ?_
  refine Z_lmul 6 rfl ?_
  refine Z_lload_n 7 rfl rfl rfl ?_
  refine Z_lmul 8 rfl ?_
  refine Z_lret 9 rfl rfl ⟨Nat.le_refl _, Nat.le_refl _⟩ ?_
  exact ⟨rfl, rfl⟩
theorem shr_o {k u n : Int} (h : k < 1 ∨ 5 < k) : shr k u n = 0 := by
  unfold shr
  rw [if_neg (by omega), if_neg (by omega), if_neg (by omega), if_neg (by omega), if_neg (by omega)]
theorem shs_o {k u n : Int} (h : k < 1 ∨ 5 < k) : shs k u n = 0 := by
  unfold shs
  rw [if_neg (by omega), if_neg (by omega), if_neg (by omega), if_neg (by omega), if_neg (by omega)]
theorem shb_o {k u n : Int} (h : k < 2 ∨ 5 < k) : shb k u n = 0 := by
  unfold shb
  rw [if_neg (by omega), if_neg (by omega), if_neg (by omega), if_neg (by omega)]
theorem c_M_share (l : Launch) (k u n : Int) (hk : inI k) : Con l M_M_share R_M_share 0 0 false [.int (iI k), .long (lI u), .long (lI n)] [] (zAl (shr k u n) (fun m => m = [])) := by
  refine Con.of_Z (by decide) D_M_share (Nat.le_of_ble_eq_true rfl) ?_
  refine Z_iload_n 0 rfl rfl rfl ?_
  rcases Classical.em (k < 1 ∨ 5 < k) with cs | cs
  · refine Z_tabOut 1 rfl hk cs (tgt := 135) rfl ?_
    refine Z_lconst 87 rfl ?_
    refine Z_lret 88 rfl rfl ⟨Nat.le_refl _, Nat.le_refl _⟩ ?_
    first | (subst cs; exact ⟨rfl, rfl⟩) | (rw [shr_o cs]; exact ⟨rfl, rfl⟩)
  rcases (show k = 1 ∨ k = 2 ∨ k = 3 ∨ k = 4 ∨ k = 5 by omega) with cs | cs | cs | cs | cs
  · refine Z_ci cs ?_
    refine Z_tabIn 1 rfl (by decide) (by decide) (by decide) (off := 35) rfl (tgt := 36) rfl ?_
    refine Z_lload_n 2 rfl rfl rfl ?_
    refine Z_lload_n 3 rfl rfl rfl ?_
    refine Z_lmul 4 rfl ?_
    refine Z_lload_n 5 rfl rfl rfl ?_
    refine Z_lmul 6 rfl ?_
    refine Z_lload_n 7 rfl rfl rfl ?_
    refine Z_lmul 8 rfl ?_
    refine Z_lload_n 9 rfl rfl rfl ?_
    refine Z_lmul 10 rfl ?_
    refine Z_lret 11 rfl rfl ⟨Nat.le_refl _, Nat.le_refl _⟩ ?_
    first | (subst cs; exact ⟨rfl, rfl⟩) | (rw [shr_o cs]; exact ⟨rfl, rfl⟩)
  · refine Z_ci cs ?_
    refine Z_tabIn 1 rfl (by decide) (by decide) (by decide) (off := 45) rfl (tgt := 46) rfl ?_
    refine Z_lload_n 12 rfl rfl rfl ?_
    refine Z_lload_n 13 rfl rfl rfl ?_
    refine Z_lmul 14 rfl ?_
    refine Z_lload_n 15 rfl rfl rfl ?_
    refine Z_lmul 16 rfl ?_
    refine Z_lload_n 17 rfl rfl rfl ?_
    refine Z_lmul 18 rfl ?_
    refine Z_lload_n 19 rfl rfl rfl ?_
    refine Z_lmul 20 rfl ?_
    refine Z_lret 21 rfl rfl ⟨Nat.le_refl _, Nat.le_refl _⟩ ?_
    first | (subst cs; exact ⟨rfl, rfl⟩) | (rw [shr_o cs]; exact ⟨rfl, rfl⟩)
  · refine Z_ci cs ?_
    refine Z_tabIn 1 rfl (by decide) (by decide) (by decide) (off := 55) rfl (tgt := 56) rfl ?_
    refine Z_ldc2 22 rfl k_M_108 (c := 2) rfl ?_
    refine Z_lload_n 23 rfl rfl rfl ?_
    refine Z_lmul 24 rfl ?_
    refine Z_lload_n 25 rfl rfl rfl ?_
    refine Z_lmul 26 rfl ?_
    refine Z_lload_n 27 rfl rfl rfl ?_
    refine Z_lload_n 28 rfl rfl rfl ?_
    refine Z_lmul 29 rfl ?_
    refine Z_lsub 30 rfl ?_
    refine Z_lload_n 31 rfl rfl rfl ?_
    refine Z_lmul 32 rfl ?_
    refine Z_lload_n 33 rfl rfl rfl ?_
    refine Z_lmul 34 rfl ?_
    refine Z_lload_n 35 rfl rfl rfl ?_
    refine Z_lmul 36 rfl ?_
    refine Z_lret 37 rfl rfl ⟨Nat.le_refl _, Nat.le_refl _⟩ ?_
    first | (subst cs; exact ⟨rfl, rfl⟩) | (rw [shr_o cs]; exact ⟨rfl, rfl⟩)
  · refine Z_ci cs ?_
    refine Z_tabIn 1 rfl (by decide) (by decide) (by decide) (off := 73) rfl (tgt := 74) rfl ?_
    refine Z_ldc2 38 rfl k_M_144 (c := 3) rfl ?_
    refine Z_lload_n 39 rfl rfl rfl ?_
    refine Z_lmul 40 rfl ?_
    refine Z_lload_n 41 rfl rfl rfl ?_
    refine Z_lmul 42 rfl ?_
    refine Z_lload_n 43 rfl rfl rfl ?_
    refine Z_lmul 44 rfl ?_
    refine Z_ldc2 45 rfl k_M_108 (c := 2) rfl ?_
    refine Z_lload_n 46 rfl rfl rfl ?_
    refine Z_lmul 47 rfl ?_
    refine Z_lload_n 48 rfl rfl rfl ?_
    refine Z_lmul 49 rfl ?_
    refine Z_lload_n 50 rfl rfl rfl ?_
    refine Z_lmul 51 rfl ?_
    refine Z_lsub 52 rfl ?_
    refine Z_lload_n 53 rfl rfl rfl ?_
    refine Z_lmul 54 rfl ?_
    refine Z_lload_n 55 rfl rfl rfl ?_
    refine Z_lmul 56 rfl ?_
    refine Z_lret 57 rfl rfl ⟨Nat.le_refl _, Nat.le_refl _⟩ ?_
    first | (subst cs; exact ⟨rfl, rfl⟩) | (rw [shr_o cs]; exact ⟨rfl, rfl⟩)
  · refine Z_ci cs ?_
    refine Z_tabIn 1 rfl (by decide) (by decide) (by decide) (off := 97) rfl (tgt := 98) rfl ?_
    refine Z_ldc2 58 rfl k_M_146 (c := 10) rfl ?_
    refine Z_lload_n 59 rfl rfl rfl ?_
    refine Z_lmul 60 rfl ?_
    refine Z_lload_n 61 rfl rfl rfl ?_
    refine Z_lmul 62 rfl ?_
    refine Z_lload_n 63 rfl rfl rfl ?_
    refine Z_lmul 64 rfl ?_
    refine Z_lload_n 65 rfl rfl rfl ?_
    refine Z_lmul 66 rfl ?_
    refine Z_lload_n 67 rfl rfl rfl ?_
    refine Z_lmul 68 rfl ?_
    refine Z_ldc2 69 rfl k_M_148 (c := 15) rfl ?_
    refine Z_lload_n 70 rfl rfl rfl ?_
    refine Z_lmul 71 rfl ?_
    refine Z_lload_n 72 rfl rfl rfl ?_
    refine Z_lmul 73 rfl ?_
    refine Z_lload_n 74 rfl rfl rfl ?_
    refine Z_lmul 75 rfl ?_
    refine Z_lload_n 76 rfl rfl rfl ?_
    refine Z_lmul 77 rfl ?_
    refine Z_lload_n 78 rfl rfl rfl ?_
    refine Z_lmul 79 rfl ?_
    refine Z_lsub 80 rfl ?_
    refine Z_ldc2 81 rfl k_M_150 (c := 6) rfl ?_
    refine Z_lload_n 82 rfl rfl rfl ?_
    refine Z_callSlp (M' := M_M_fifth) 83 [] rfl l_M_152 C_M_fifth (c_M_fifth l u) ⟨List.nodup_nil, zEL.n⟩ rfl rfl rfl (Nat.le_of_ble_eq_true rfl) ⟨rfl, rfl, Nat.le_of_ble_eq_true rfl, Nat.le_of_ble_eq_true rfl⟩ ⟨Nat.zero_le _, Nat.zero_le _⟩ ?_
    refine Z_lmul 84 rfl ?_
    refine Z_ladd 85 rfl ?_
    refine Z_lret 86 rfl rfl ⟨Nat.le_refl _, Nat.le_refl _⟩ ?_
    first | (subst cs; exact ⟨rfl, rfl⟩) | (rw [shr_o cs]; exact ⟨rfl, rfl⟩)
theorem c_M_shareSlope (l : Launch) (k u n : Int) (hk : inI k) : Con l M_M_shareSlope R_M_shareSlope 0 0 false [.int (iI k), .long (lI u), .long (lI n)] [] (zAl (shs k u n) (fun m => m = [])) := by
  refine Con.of_Z (by decide) D_M_shareSlope (Nat.le_of_ble_eq_true rfl) ?_
  refine Z_iload_n 0 rfl rfl rfl ?_
  rcases Classical.em (k < 1 ∨ 5 < k) with cs | cs
  · refine Z_tabOut 1 rfl hk cs (tgt := 100) rfl ?_
    refine Z_lconst 58 rfl ?_
    refine Z_lret 59 rfl rfl ⟨Nat.le_refl _, Nat.le_refl _⟩ ?_
    first | (subst cs; exact ⟨rfl, rfl⟩) | (rw [shs_o cs]; exact ⟨rfl, rfl⟩)
  rcases (show k = 1 ∨ k = 2 ∨ k = 3 ∨ k = 4 ∨ k = 5 by omega) with cs | cs | cs | cs | cs
  · refine Z_ci cs ?_
    refine Z_tabIn 1 rfl (by decide) (by decide) (by decide) (off := 35) rfl (tgt := 36) rfl ?_
    refine Z_lload_n 2 rfl rfl rfl ?_
    refine Z_lload_n 3 rfl rfl rfl ?_
    refine Z_lmul 4 rfl ?_
    refine Z_lload_n 5 rfl rfl rfl ?_
    refine Z_lmul 6 rfl ?_
    refine Z_lload_n 7 rfl rfl rfl ?_
    refine Z_lmul 8 rfl ?_
    refine Z_lret 9 rfl rfl ⟨Nat.le_refl _, Nat.le_refl _⟩ ?_
    first | (subst cs; exact ⟨rfl, rfl⟩) | (rw [shs_o cs]; exact ⟨rfl, rfl⟩)
  · refine Z_ci cs ?_
    refine Z_tabIn 1 rfl (by decide) (by decide) (by decide) (off := 43) rfl (tgt := 44) rfl ?_
    refine Z_ldc2 10 rfl k_M_108 (c := 2) rfl ?_
    refine Z_lload_n 11 rfl rfl rfl ?_
    refine Z_lmul 12 rfl ?_
    refine Z_lload_n 13 rfl rfl rfl ?_
    refine Z_lmul 14 rfl ?_
    refine Z_lload_n 15 rfl rfl rfl ?_
    refine Z_lmul 16 rfl ?_
    refine Z_lload_n 17 rfl rfl rfl ?_
    refine Z_lmul 18 rfl ?_
    refine Z_lret 19 rfl rfl ⟨Nat.le_refl _, Nat.le_refl _⟩ ?_
    first | (subst cs; exact ⟨rfl, rfl⟩) | (rw [shs_o cs]; exact ⟨rfl, rfl⟩)
  · refine Z_ci cs ?_
    refine Z_tabIn 1 rfl (by decide) (by decide) (by decide) (off := 55) rfl (tgt := 56) rfl ?_
    refine Z_ldc2 20 rfl k_M_108 (c := 2) rfl ?_
    refine Z_lload_n 21 rfl rfl rfl ?_
    refine Z_lload_n 22 rfl rfl rfl ?_
    refine Z_lsub 23 rfl ?_
    refine Z_lmul 24 rfl ?_
    refine Z_lload_n 25 rfl rfl rfl ?_
    refine Z_lmul 26 rfl ?_
    refine Z_lload_n 27 rfl rfl rfl ?_
    refine Z_lmul 28 rfl ?_
    refine Z_lload_n 29 rfl rfl rfl ?_
    refine Z_lmul 30 rfl ?_
    refine Z_lret 31 rfl rfl ⟨Nat.le_refl _, Nat.le_refl _⟩ ?_
    first | (subst cs; exact ⟨rfl, rfl⟩) | (rw [shs_o cs]; exact ⟨rfl, rfl⟩)
  · refine Z_ci cs ?_
    refine Z_tabIn 1 rfl (by decide) (by decide) (by decide) (off := 69) rfl (tgt := 70) rfl ?_
    refine Z_ldc2 32 rfl k_M_150 (c := 6) rfl ?_
    refine Z_lload_n 33 rfl rfl rfl ?_
    refine Z_lmul 34 rfl ?_
    refine Z_lload_n 35 rfl rfl rfl ?_
    refine Z_lload_n 36 rfl rfl rfl ?_
    refine Z_lsub 37 rfl ?_
    refine Z_lmul 38 rfl ?_
    refine Z_lload_n 39 rfl rfl rfl ?_
    refine Z_lmul 40 rfl ?_
    refine Z_lload_n 41 rfl rfl rfl ?_
    refine Z_lmul 42 rfl ?_
    refine Z_lret 43 rfl rfl ⟨Nat.le_refl _, Nat.le_refl _⟩ ?_
    first | (subst cs; exact ⟨rfl, rfl⟩) | (rw [shs_o cs]; exact ⟨rfl, rfl⟩)
  · refine Z_ci cs ?_
    refine Z_tabIn 1 rfl (by decide) (by decide) (by decide) (off := 83) rfl (tgt := 84) rfl ?_
    refine Z_ldc2 44 rfl k_M_155 (c := 30) rfl ?_
    refine Z_lload_n 45 rfl rfl rfl ?_
    refine Z_lmul 46 rfl ?_
    refine Z_lload_n 47 rfl rfl rfl ?_
    refine Z_lmul 48 rfl ?_
    refine Z_lload_n 49 rfl rfl rfl ?_
    refine Z_lload_n 50 rfl rfl rfl ?_
    refine Z_lsub 51 rfl ?_
    refine Z_lmul 52 rfl ?_
    refine Z_lload_n 53 rfl rfl rfl ?_
    refine Z_lload_n 54 rfl rfl rfl ?_
    refine Z_lsub 55 rfl ?_
    refine Z_lmul 56 rfl ?_
    refine Z_lret 57 rfl rfl ⟨Nat.le_refl _, Nat.le_refl _⟩ ?_
    first | (subst cs; exact ⟨rfl, rfl⟩) | (rw [shs_o cs]; exact ⟨rfl, rfl⟩)
theorem c_M_shareBend (l : Launch) (k u n : Int) (hk : inI k) : Con l M_M_shareBend R_M_shareBend 0 0 false [.int (iI k), .long (lI u), .long (lI n)] [] (zAl (shb k u n) (fun m => m = [])) := by
  refine Con.of_Z (by decide) D_M_shareBend (Nat.le_of_ble_eq_true rfl) ?_
  refine Z_iload_n 0 rfl rfl rfl ?_
  rcases Classical.em (k < 2 ∨ 5 < k) with cs | cs
  · refine Z_tabOut 1 rfl hk cs (tgt := 98) rfl ?_
    refine Z_lconst 54 rfl ?_
    refine Z_lret 55 rfl rfl ⟨Nat.le_refl _, Nat.le_refl _⟩ ?_
    first | (subst cs; exact ⟨rfl, rfl⟩) | (rw [shb_o cs]; exact ⟨rfl, rfl⟩)
  rcases (show k = 2 ∨ k = 3 ∨ k = 4 ∨ k = 5 by omega) with cs | cs | cs | cs
  · refine Z_ci cs ?_
    refine Z_tabIn 1 rfl (by decide) (by decide) (by decide) (off := 31) rfl (tgt := 32) rfl ?_
    refine Z_ldc2 2 rfl k_M_108 (c := 2) rfl ?_
    refine Z_lload_n 3 rfl rfl rfl ?_
    refine Z_lmul 4 rfl ?_
    refine Z_lload_n 5 rfl rfl rfl ?_
    refine Z_lmul 6 rfl ?_
    refine Z_lload_n 7 rfl rfl rfl ?_
    refine Z_lmul 8 rfl ?_
    refine Z_lret 9 rfl rfl ⟨Nat.le_refl _, Nat.le_refl _⟩ ?_
    first | (subst cs; exact ⟨rfl, rfl⟩) | (rw [shb_o cs]; exact ⟨rfl, rfl⟩)
  · refine Z_ci cs ?_
    refine Z_tabIn 1 rfl (by decide) (by decide) (by decide) (off := 41) rfl (tgt := 42) rfl ?_
    refine Z_ldc2 10 rfl k_M_157 (c := -2) rfl ?_
    refine Z_lload_n 11 rfl rfl rfl ?_
    refine Z_lmul 12 rfl ?_
    refine Z_lload_n 13 rfl rfl rfl ?_
    refine Z_lmul 14 rfl ?_
    refine Z_lload_n 15 rfl rfl rfl ?_
    refine Z_lmul 16 rfl ?_
    refine Z_lret 17 rfl rfl ⟨Nat.le_refl _, Nat.le_refl _⟩ ?_
    first | (subst cs; exact ⟨rfl, rfl⟩) | (rw [shb_o cs]; exact ⟨rfl, rfl⟩)
  · refine Z_ci cs ?_
    refine Z_tabIn 1 rfl (by decide) (by decide) (by decide) (off := 51) rfl (tgt := 52) rfl ?_
    refine Z_ldc2 18 rfl k_M_150 (c := 6) rfl ?_
    refine Z_lload_n 19 rfl rfl rfl ?_
    refine Z_lmul 20 rfl ?_
    refine Z_ldc2 21 rfl k_M_159 (c := 12) rfl ?_
    refine Z_lload_n 22 rfl rfl rfl ?_
    refine Z_lmul 23 rfl ?_
    refine Z_lsub 24 rfl ?_
    refine Z_lload_n 25 rfl rfl rfl ?_
    refine Z_lmul 26 rfl ?_
    refine Z_lload_n 27 rfl rfl rfl ?_
    refine Z_lmul 28 rfl ?_
    refine Z_lret 29 rfl rfl ⟨Nat.le_refl _, Nat.le_refl _⟩ ?_
    first | (subst cs; exact ⟨rfl, rfl⟩) | (rw [shb_o cs]; exact ⟨rfl, rfl⟩)
  · refine Z_ci cs ?_
    refine Z_tabIn 1 rfl (by decide) (by decide) (by decide) (off := 67) rfl (tgt := 68) rfl ?_
    refine Z_ldc2 30 rfl k_M_161 (c := 60) rfl ?_
    refine Z_lload_n 31 rfl rfl rfl ?_
    refine Z_lmul 32 rfl ?_
    refine Z_lload_n 33 rfl rfl rfl ?_
    refine Z_lmul 34 rfl ?_
    refine Z_lload_n 35 rfl rfl rfl ?_
    refine Z_lmul 36 rfl ?_
    refine Z_ldc2 37 rfl k_M_163 (c := 180) rfl ?_
    refine Z_lload_n 38 rfl rfl rfl ?_
    refine Z_lmul 39 rfl ?_
    refine Z_lload_n 40 rfl rfl rfl ?_
    refine Z_lmul 41 rfl ?_
    refine Z_lload_n 42 rfl rfl rfl ?_
    refine Z_lmul 43 rfl ?_
    refine Z_lsub 44 rfl ?_
    refine Z_ldc2 45 rfl k_M_165 (c := 120) rfl ?_
    refine Z_lload_n 46 rfl rfl rfl ?_
    refine Z_lmul 47 rfl ?_
    refine Z_lload_n 48 rfl rfl rfl ?_
    refine Z_lmul 49 rfl ?_
    refine Z_lload_n 50 rfl rfl rfl ?_
    refine Z_lmul 51 rfl ?_
    refine Z_ladd 52 rfl ?_
    refine Z_lret 53 rfl rfl ⟨Nat.le_refl _, Nat.le_refl _⟩ ?_
    first | (subst cs; exact ⟨rfl, rfl⟩) | (rw [shb_o cs]; exact ⟨rfl, rfl⟩)
theorem lp_M_common (l : Launch) (g : Nat) : ∀ (d : Nat) (x y : Int) (a b : Int), (0 ≤ x ∧ x ≤ 9223372036854775807) → (0 ≤ y ∧ y ≤ 9223372036854775807) → y < d → Int.gcd x y = g → Z (l, M_M_common, R_M_common, (0, 0), false, zAl (g : Int) (fun m => m = [])) 0 0 [] 9 [(0, .long (lI a)), (2, .long (lI b)), (4, .long (lI x)), (6, .long (lI y))] [] := by
  intro d
  induction d with
  | zero => intro x y a b h1 h2 h3; omega
  | succ d ih =>
    intro x y a b h1 h2 h3 h6
    refine Z_lload 5 rfl rfl ?_
    refine Z_lconst 6 rfl ?_
    refine Z_lc_eq 7 rfl rfl (tgt := 34) rfl (by omega) (by omega) (fun c12 => ?_) (fun c12 => ?_)
    · refine Z_lload 18 rfl rfl ?_
      refine Z_lret 19 rfl rfl ⟨Nat.le_refl _, Nat.le_refl _⟩ ?_
      rw [show y = 0 from c12, Int.gcd_zero_right] at h6
      exact ⟨by rw [← h6, Int.natAbs_of_nonneg h1.1], rfl⟩
    · refine Z_lload 9 rfl rfl ?_
      refine Z_lload 10 rfl rfl ?_
      refine Z_lrem 11 rfl (by omega) (by omega) (by omega) ?_
      refine Z_lstore 12 rfl (Nat.le_of_ble_eq_true rfl) (lv' := [(8, .long _), (0, .long _), (2, .long _), (4, .long _), (6, .long _)]) rfl ?_
      refine Z_lload 13 rfl rfl ?_
      refine Z_lstore 14 rfl (Nat.le_of_ble_eq_true rfl) (lv' := [(4, .long _), (8, .long _), (0, .long _), (2, .long _), (6, .long _)]) rfl ?_
      refine Z_lload 15 rfl rfl ?_
      refine Z_lstore 16 rfl (Nat.le_of_ble_eq_true rfl) (lv' := [(6, .long _), (4, .long _), (8, .long _), (0, .long _), (2, .long _)]) rfl ?_
      refine Z_goto 17 rfl (tgt := 9) rfl ?_
      refine Z_pick [0, 2, 4, 6] (lv' := [(0, .long _), (2, .long _), (4, .long _), (6, .long _)]) rfl ?_
      have h7 := tm_bd h1.1 (show 0 < y by omega)
      exact ih y (x.tmod y) a b h2 (by omega) (by omega) (by rw [gcd_st h1.1 h2.1]; exact h6)
theorem c_M_common (l : Launch) (a b : Int) (ha : inL a ∧ a ≠ -9223372036854775808) (hb : 0 ≤ b ∧ inL b) : Con l M_M_common R_M_common 0 0 false [.long (lI a), .long (lI b)] [] (zAl (Int.gcd a b : Nat) (fun m => m = [])) := by
  have h1 : 0 ≤ ab a ∧ ab a ≤ 9223372036854775807 := by unfold ab; split <;> omega
  have e1 : Int.gcd (ab a) b = Int.gcd a b := by
    have e : (ab a).natAbs = a.natAbs := by unfold ab; split <;> omega
    unfold Int.gcd
    rw [e]
  refine Con.of_Z (by decide) D_M_common (Nat.le_of_ble_eq_true rfl) ?_
  refine Z_lload_n 0 rfl rfl rfl ?_
  refine Z_absL 1 rfl l_M_137 b_st_absL b_ini_Math b_cd_absL (by omega) (Nat.le_of_ble_eq_true rfl) ⟨Nat.le_of_ble_eq_true rfl, Nat.zero_le _, Nat.zero_le _⟩ ?_
  refine Z_cl (show _ = ab a from rfl) ?_
  refine Z_lstore 2 rfl (Nat.le_of_ble_eq_true rfl) (lv' := [(4, .long _), (0, .long _), (2, .long _)]) rfl ?_
  refine Z_lload_n 3 rfl rfl rfl ?_
  refine Z_lstore 4 rfl (Nat.le_of_ble_eq_true rfl) (lv' := [(6, .long _), (4, .long _), (0, .long _), (2, .long _)]) rfl ?_
  refine Z_pick [0, 2, 4, 6] (lv' := [(0, .long _), (2, .long _), (4, .long _), (6, .long _)]) rfl ?_
  exact lp_M_common l _ (b.toNat + 1) (ab a) b a b h1 (by omega) (by omega) e1
theorem c_M_lowest (l : Launch) (a b p : Int) (ha : inL a ∧ a ≠ -9223372036854775808) (hb : 0 < b ∧ inL b) (hp : inI p) : Con l M_M_lowest R_M_lowest 0 0 false [.long (lI a), .long (lI b), .int (iI p)] [] (zAl (lo a b p) (fun m => m = [])) := by
  have h1 := gcd_pos (a := a) hb.1
  have h2 := gcd_le (a := a) hb.1
  refine Con.of_Z (by decide) D_M_lowest (Nat.le_of_ble_eq_true rfl) ?_
  refine Z_iload 0 rfl rfl ?_
  refine Z_if_ne 1 rfl (tgt := 9) rfl (by omega) (fun c2 => ?_) (fun c2 => ?_)
  · refine Z_lload_n 4 rfl rfl rfl ?_
    refine Z_lload_n 5 rfl rfl rfl ?_
    refine Z_lload_n 6 rfl rfl rfl ?_
    refine Z_callSlp (M' := M_M_common) 7 [] rfl l_M_140 C_M_common (c_M_common l a b ha (by omega)) ⟨List.nodup_nil, zEL.n⟩ rfl rfl rfl (Nat.le_of_ble_eq_true rfl) ⟨rfl, rfl, Nat.le_of_ble_eq_true rfl, Nat.le_of_ble_eq_true rfl⟩ ⟨Nat.zero_le _, Nat.zero_le _⟩ ?_
    refine Z_ldiv 8 rfl (by omega) (by omega) (by omega) ?_
    refine Z_lret 9 rfl rfl ⟨Nat.le_refl _, Nat.le_refl _⟩ ?_
    exact ⟨by unfold lo; first | rw [if_pos (by omega)] | rw [if_neg (by omega)], rfl⟩
  · refine Z_lload_n 2 rfl rfl rfl ?_
    refine Z_goto 3 rfl (tgt := 10) rfl ?_
    refine Z_lload_n 5 rfl rfl rfl ?_
    refine Z_lload_n 6 rfl rfl rfl ?_
    refine Z_callSlp (M' := M_M_common) 7 [] rfl l_M_140 C_M_common (c_M_common l a b ha (by omega)) ⟨List.nodup_nil, zEL.n⟩ rfl rfl rfl (Nat.le_of_ble_eq_true rfl) ⟨rfl, rfl, Nat.le_of_ble_eq_true rfl, Nat.le_of_ble_eq_true rfl⟩ ⟨Nat.zero_le _, Nat.zero_le _⟩ ?_
    refine Z_ldiv 8 rfl (by omega) (by omega) (by omega) ?_
    refine Z_lret 9 rfl rfl ⟨Nat.le_refl _, Nat.le_refl _⟩ ?_
    exact ⟨by unfold lo; first | rw [if_pos (by omega)] | rw [if_neg (by omega)], rfl⟩
theorem lp_M_isLess (l : Launch) (pr : Prop) : ∀ (n : Nat) (a b c d : Int) (x0 x1 x2 x3 : Int), (0 ≤ a ∧ inL a) → (0 < b ∧ inL b) → (0 ≤ c ∧ inL c) → (0 < d ∧ inL d) → b + d < n → (pr ↔ a * d < c * b) → Z (l, M_M_isLess, R_M_isLess, (0, 0), false, zAb pr (fun m => m = [])) 0 0 [] 14 [(0, .long (lI x0)), (2, .long (lI x1)), (4, .long (lI x2)), (6, .long (lI x3)), (8, .long (lI a)), (10, .long (lI b)), (12, .long (lI c)), (14, .long (lI d))] [] := by
  intro n
  induction n with
  | zero => intro a b c d x0 x1 x2 x3 h1 h2 h3 h4 h5; omega
  | succ n ih =>
    intro a b c d x0 x1 x2 x3 ha hb hc hd h5 h9
    have r1 := tm_bd ha.1 hb.1
    have r2 := tm_bd hc.1 hd.1
    have q1 : inL (a.tdiv b) := by rw [td_n ha.1]; exact ed_bd ha.2 hb.1
    have q2 : inL (c.tdiv d) := by rw [td_n hc.1]; exact ed_bd hc.2 hd.1
    refine Z_lload 8 rfl rfl ?_
    refine Z_lload 9 rfl rfl ?_
    refine Z_ldiv 10 rfl (by omega) (by omega) (by omega) ?_
    refine Z_lload 11 rfl rfl ?_
    refine Z_lload 12 rfl rfl ?_
    refine Z_ldiv 13 rfl (by omega) (by omega) (by omega) ?_
    refine Z_lc_eq 14 rfl rfl (tgt := 48) rfl q1 q2 (fun c24 => ?_) (fun c24 => ?_)
    · refine Z_lload 28 rfl rfl ?_
      refine Z_lload 29 rfl rfl ?_
      refine Z_lrem 30 rfl (by omega) (by omega) (by omega) ?_
      refine Z_lstore 31 rfl (Nat.le_of_ble_eq_true rfl) (lv' := [(16, .long _), (0, .long _), (2, .long _), (4, .long _), (6, .long _), (8, .long _), (10, .long _), (12, .long _), (14, .long _)]) rfl ?_
      refine Z_lload 32 rfl rfl ?_
      refine Z_lload 33 rfl rfl ?_
      refine Z_lrem 34 rfl (by omega) (by omega) (by omega) ?_
      refine Z_lstore 35 rfl (Nat.le_of_ble_eq_true rfl) (lv' := [(18, .long _), (16, .long _), (0, .long _), (2, .long _), (4, .long _), (6, .long _), (8, .long _), (10, .long _), (12, .long _), (14, .long _)]) rfl ?_
      rw [td_n ha.1, td_n hc.1] at c24
      have h10 : pr ↔ a.tmod b * d < c.tmod d * b := by
        rw [h9, mo_eq (a := c) (b := d) (c := a) (d := b) c24.symm, ← Int.tmod_eq_emod_of_nonneg ha.1, ← Int.tmod_eq_emod_of_nonneg hc.1]
      refine Z_lload 36 rfl rfl ?_
      refine Z_lconst 37 rfl ?_
      refine Z_lc_eq 38 rfl rfl (tgt := 76) rfl (by omega) (by omega) (fun c65 => ?_) (fun c65 => ?_)
      · refine Z_lload 44 rfl rfl ?_
        refine Z_lconst 45 rfl ?_
        refine Z_lc_ne 46 rfl rfl (tgt := 94) rfl (by omega) (by omega) (fun c79 => ?_) (fun c79 => ?_)
        · refine Z_iconst 54 rfl ?_
          refine Z_zret 55 rfl rfl rfl ⟨Nat.le_refl _, Nat.le_refl _⟩ ?_
          have g1 : 0 < c.tmod d → 0 < c.tmod d * b := fun z => Int.mul_pos z hb.1
          have g2 : 0 < a.tmod b → 0 < a.tmod b * d := fun z => Int.mul_pos z hd.1
          have g3 : c.tmod d = 0 → c.tmod d * b = 0 := fun z => by rw [z, Int.zero_mul]
          have g4 : a.tmod b = 0 → a.tmod b * d = 0 := fun z => by rw [z, Int.zero_mul]
          first | (exfalso; omega) | exact ⟨bT (h10.mpr (by omega)), rfl⟩ | exact ⟨bF (fun z => by have := h10.mp z; omega), rfl⟩
        · refine Z_lload 48 rfl rfl ?_
          refine Z_lconst 49 rfl ?_
          refine Z_lc_le 50 rfl rfl (tgt := 94) rfl (by omega) (by omega) (fun c86 => ?_) (fun c86 => ?_)
          · refine Z_iconst 54 rfl ?_
            refine Z_zret 55 rfl rfl rfl ⟨Nat.le_refl _, Nat.le_refl _⟩ ?_
            have g1 : 0 < c.tmod d → 0 < c.tmod d * b := fun z => Int.mul_pos z hb.1
            have g2 : 0 < a.tmod b → 0 < a.tmod b * d := fun z => Int.mul_pos z hd.1
            have g3 : c.tmod d = 0 → c.tmod d * b = 0 := fun z => by rw [z, Int.zero_mul]
            have g4 : a.tmod b = 0 → a.tmod b * d = 0 := fun z => by rw [z, Int.zero_mul]
            first | (exfalso; omega) | exact ⟨bT (h10.mpr (by omega)), rfl⟩ | exact ⟨bF (fun z => by have := h10.mp z; omega), rfl⟩
          · refine Z_iconst 52 rfl ?_
            refine Z_goto 53 rfl (tgt := 95) rfl ?_
            refine Z_zret 55 rfl rfl rfl ⟨Nat.le_refl _, Nat.le_refl _⟩ ?_
            have g1 : 0 < c.tmod d → 0 < c.tmod d * b := fun z => Int.mul_pos z hb.1
            have g2 : 0 < a.tmod b → 0 < a.tmod b * d := fun z => Int.mul_pos z hd.1
            have g3 : c.tmod d = 0 → c.tmod d * b = 0 := fun z => by rw [z, Int.zero_mul]
            have g4 : a.tmod b = 0 → a.tmod b * d = 0 := fun z => by rw [z, Int.zero_mul]
            first | (exfalso; omega) | exact ⟨bT (h10.mpr (by omega)), rfl⟩ | exact ⟨bF (fun z => by have := h10.mp z; omega), rfl⟩
      · refine Z_lload 40 rfl rfl ?_
        refine Z_lconst 41 rfl ?_
        refine Z_lc_ne 42 rfl rfl (tgt := 96) rfl (by omega) (by omega) (fun c72 => ?_) (fun c72 => ?_)
        · refine Z_lload 56 rfl rfl ?_
          refine Z_lstore 57 rfl (Nat.le_of_ble_eq_true rfl) (lv' := [(8, .long _), (18, .long _), (16, .long _), (0, .long _), (2, .long _), (4, .long _), (6, .long _), (10, .long _), (12, .long _), (14, .long _)]) rfl ?_
          refine Z_lload 58 rfl rfl ?_
          refine Z_lstore 59 rfl (Nat.le_of_ble_eq_true rfl) (lv' := [(12, .long _), (8, .long _), (18, .long _), (16, .long _), (0, .long _), (2, .long _), (4, .long _), (6, .long _), (10, .long _), (14, .long _)]) rfl ?_
          refine Z_lload 60 rfl rfl ?_
          refine Z_lstore 61 rfl (Nat.le_of_ble_eq_true rfl) (lv' := [(10, .long _), (12, .long _), (8, .long _), (18, .long _), (16, .long _), (0, .long _), (2, .long _), (4, .long _), (6, .long _), (14, .long _)]) rfl ?_
          refine Z_lload 62 rfl rfl ?_
          refine Z_lstore 63 rfl (Nat.le_of_ble_eq_true rfl) (lv' := [(14, .long _), (10, .long _), (12, .long _), (8, .long _), (18, .long _), (16, .long _), (0, .long _), (2, .long _), (4, .long _), (6, .long _)]) rfl ?_
          refine Z_goto 64 rfl (tgt := 14) rfl ?_
          refine Z_pick [0, 2, 4, 6, 8, 10, 12, 14] (lv' := [(0, .long _), (2, .long _), (4, .long _), (6, .long _), (8, .long _), (10, .long _), (12, .long _), (14, .long _)]) rfl ?_
          exact ih d (c.tmod d) b (a.tmod b) x0 x1 x2 x3 (by omega) (by omega) (by omega) (by omega) (by omega) (by rw [h10, Int.mul_comm d, Int.mul_comm b])
        · refine Z_lload 44 rfl rfl ?_
          refine Z_lconst 45 rfl ?_
          refine Z_lc_ne 46 rfl rfl (tgt := 94) rfl (by omega) (by omega) (fun c79 => ?_) (fun c79 => ?_)
          · refine Z_iconst 54 rfl ?_
            refine Z_zret 55 rfl rfl rfl ⟨Nat.le_refl _, Nat.le_refl _⟩ ?_
            have g1 : 0 < c.tmod d → 0 < c.tmod d * b := fun z => Int.mul_pos z hb.1
            have g2 : 0 < a.tmod b → 0 < a.tmod b * d := fun z => Int.mul_pos z hd.1
            have g3 : c.tmod d = 0 → c.tmod d * b = 0 := fun z => by rw [z, Int.zero_mul]
            have g4 : a.tmod b = 0 → a.tmod b * d = 0 := fun z => by rw [z, Int.zero_mul]
            first | (exfalso; omega) | exact ⟨bT (h10.mpr (by omega)), rfl⟩ | exact ⟨bF (fun z => by have := h10.mp z; omega), rfl⟩
          · refine Z_lload 48 rfl rfl ?_
            refine Z_lconst 49 rfl ?_
            refine Z_lc_le 50 rfl rfl (tgt := 94) rfl (by omega) (by omega) (fun c86 => ?_) (fun c86 => ?_)
            · refine Z_iconst 54 rfl ?_
              refine Z_zret 55 rfl rfl rfl ⟨Nat.le_refl _, Nat.le_refl _⟩ ?_
              have g1 : 0 < c.tmod d → 0 < c.tmod d * b := fun z => Int.mul_pos z hb.1
              have g2 : 0 < a.tmod b → 0 < a.tmod b * d := fun z => Int.mul_pos z hd.1
              have g3 : c.tmod d = 0 → c.tmod d * b = 0 := fun z => by rw [z, Int.zero_mul]
              have g4 : a.tmod b = 0 → a.tmod b * d = 0 := fun z => by rw [z, Int.zero_mul]
              first | (exfalso; omega) | exact ⟨bT (h10.mpr (by omega)), rfl⟩ | exact ⟨bF (fun z => by have := h10.mp z; omega), rfl⟩
            · refine Z_iconst 52 rfl ?_
              refine Z_goto 53 rfl (tgt := 95) rfl ?_
              refine Z_zret 55 rfl rfl rfl ⟨Nat.le_refl _, Nat.le_refl _⟩ ?_
              have g1 : 0 < c.tmod d → 0 < c.tmod d * b := fun z => Int.mul_pos z hb.1
              have g2 : 0 < a.tmod b → 0 < a.tmod b * d := fun z => Int.mul_pos z hd.1
              have g3 : c.tmod d = 0 → c.tmod d * b = 0 := fun z => by rw [z, Int.zero_mul]
              have g4 : a.tmod b = 0 → a.tmod b * d = 0 := fun z => by rw [z, Int.zero_mul]
              first | (exfalso; omega) | exact ⟨bT (h10.mpr (by omega)), rfl⟩ | exact ⟨bF (fun z => by have := h10.mp z; omega), rfl⟩
    · refine Z_lload 16 rfl rfl ?_
      refine Z_lload 17 rfl rfl ?_
      refine Z_ldiv 18 rfl (by omega) (by omega) (by omega) ?_
      refine Z_lload 19 rfl rfl ?_
      refine Z_lload 20 rfl rfl ?_
      refine Z_ldiv 21 rfl (by omega) (by omega) (by omega) ?_
      refine Z_lc_ge 22 rfl rfl (tgt := 46) rfl q1 q2 (fun c38 => ?_) (fun c38 => ?_)
      · refine Z_iconst 26 rfl ?_
        refine Z_zret 27 rfl rfl rfl ⟨Nat.le_refl _, Nat.le_refl _⟩ ?_
        rw [td_n ha.1, td_n hc.1] at c24 c38
        first | exact ⟨bT (h9.mpr (mo_ne hd.1 hb.1 (by omega))), rfl⟩ | exact ⟨bF (fun z => by have := h9.mp z; have := mo_ne hb.1 hd.1 (show c / d < a / b by omega); omega), rfl⟩
      · refine Z_iconst 24 rfl ?_
        refine Z_goto 25 rfl (tgt := 47) rfl ?_
        refine Z_zret 27 rfl rfl rfl ⟨Nat.le_refl _, Nat.le_refl _⟩ ?_
        rw [td_n ha.1, td_n hc.1] at c24 c38
        first | exact ⟨bT (h9.mpr (mo_ne hd.1 hb.1 (by omega))), rfl⟩ | exact ⟨bF (fun z => by have := h9.mp z; have := mo_ne hb.1 hd.1 (show c / d < a / b by omega); omega), rfl⟩
theorem c_M_isLess (l : Launch) (a b c d : Int) (ha : 0 ≤ a ∧ inL a) (hb : 0 < b ∧ inL b) (hc : 0 ≤ c ∧ inL c) (hd : 0 < d ∧ inL d) : Con l M_M_isLess R_M_isLess 0 0 false [.long (lI a), .long (lI b), .long (lI c), .long (lI d)] [] (zAb (a * d < c * b) (fun m => m = [])) := by
  refine Con.of_Z (by decide) D_M_isLess (Nat.le_of_ble_eq_true rfl) ?_
  refine Z_lload_n 0 rfl rfl rfl ?_
  refine Z_lstore 1 rfl (Nat.le_of_ble_eq_true rfl) (lv' := [(8, .long _), (0, .long _), (2, .long _), (4, .long _), (6, .long _)]) rfl ?_
  refine Z_lload_n 2 rfl rfl rfl ?_
  refine Z_lstore 3 rfl (Nat.le_of_ble_eq_true rfl) (lv' := [(10, .long _), (8, .long _), (0, .long _), (2, .long _), (4, .long _), (6, .long _)]) rfl ?_
  refine Z_lload 4 rfl rfl ?_
  refine Z_lstore 5 rfl (Nat.le_of_ble_eq_true rfl) (lv' := [(12, .long _), (10, .long _), (8, .long _), (0, .long _), (2, .long _), (4, .long _), (6, .long _)]) rfl ?_
  refine Z_lload 6 rfl rfl ?_
  refine Z_lstore 7 rfl (Nat.le_of_ble_eq_true rfl) (lv' := [(14, .long _), (12, .long _), (10, .long _), (8, .long _), (0, .long _), (2, .long _), (4, .long _), (6, .long _)]) rfl ?_
  refine Z_pick [0, 2, 4, 6, 8, 10, 12, 14] (lv' := [(0, .long _), (2, .long _), (4, .long _), (6, .long _), (8, .long _), (10, .long _), (12, .long _), (14, .long _)]) rfl ?_
  exact lp_M_isLess l _ (b + d + 1).toNat a b c d a b c d ha hb hc hd (by omega) Iff.rfl
theorem c_M_justAbove (l : Launch) (a b : Int) (ha : inL a) (hb : 0 < b ∧ inL b) : Con l M_M_justAbove R_M_justAbove 0 0 false [.long (lI a), .long (lI b)] [] (zAl (a / b + 1) (fun m => m = [])) := by
  refine Con.of_Z (by decide) D_M_justAbove (Nat.le_of_ble_eq_true rfl) ?_
  refine Z_lload_n 0 rfl rfl rfl ?_
  refine Z_lload_n 1 rfl rfl rfl ?_
  refine Z_callSlp (M' := M_J9_floorDiv) 2 [] rfl l_M_248 C_J9_floorDiv (c_floorDiv l a b ha hb.2 hb.1) ⟨List.nodup_nil, zEL.n⟩ rfl rfl rfl (Nat.le_of_ble_eq_true rfl) ⟨rfl, rfl, Nat.le_of_ble_eq_true rfl, Nat.le_of_ble_eq_true rfl⟩ ⟨Nat.zero_le _, Nat.zero_le _⟩ ?_
  refine Z_lconst 3 rfl ?_
  refine Z_ladd 4 rfl ?_
  refine Z_lret 5 rfl rfl ⟨Nat.le_refl _, Nat.le_refl _⟩ ?_
  exact ⟨rfl, rfl⟩
section M1
variable (l : Launch) (p : MP) (he fa li sl be ov av bl : Int) (kw sm : Int → Int) (ma mf mw : Int) (cj : TT)
theorem c_M_isPiece (h : TB p.t) (k : Int) (hk : inI k) : Con l M_M_isPiece R_M_isPiece 0 0 false [.ref 0, .int (iI k)] (eM p he fa li sl be ov av bl kw sm ma mf mw cj) (zAb (0 ≤ k ∧ k < p.t.2.2.2) (fun m => m = eM p he fa li sl be ov av bl kw sm ma mf mw cj)) := by
  have h1 := h.1
  refine Con.of_Z (by decide) D_M_isPiece (Nat.le_of_ble_eq_true rfl) ?_
  refine Z_iload_n 0 rfl rfl rfl ?_
  refine Z_i2l 1 rfl (by omega) ?_
  refine Z_lconst 2 rfl ?_
  refine Z_aload_n 3 rfl rfl rfl ?_
  refine Z_get 4 rfl f_M_77 rfl rfl ?_
  refine Z_iconst 5 rfl ?_
  refine Z_isub 6 rfl ?_
  refine Z_i2l 7 rfl (by omega) ?_
  refine Z_callSbp (M' := M_M_in) 8 [] rfl l_M_80 C_M_in (c_M_in l _ _ _ (by omega) (by omega) (by omega)) ⟨List.nodup_nil, zEL.n⟩ rfl rfl rfl (Nat.le_of_ble_eq_true rfl) ⟨rfl, rfl, Nat.le_of_ble_eq_true rfl, Nat.le_of_ble_eq_true rfl⟩ ⟨Nat.zero_le _, Nat.zero_le _⟩ ?_
  refine Z_zret 9 rfl rfl (bI_nar _) ⟨Nat.le_refl _, Nat.le_refl _⟩ ?_
  exact ⟨congrArg (fun x => some (Value.int (iI x))) (bI_c (show (0 ≤ k ∧ k ≤ p.t.2.2.2 - 1) ↔ (0 ≤ k ∧ k < p.t.2.2.2) by omega)), rfl⟩
theorem lp_M_total (h : TB p.t) : ∀ (d : Nat) (k : Int), 0 ≤ k → k ≤ p.t.2.2.2 → p.t.2.2.2 - k < d → Z (l, M_M_total, R_M_total, (0, 0), false, zAi (tot p.t) (fun m => m = eM p he fa li sl be ov av bl kw sm ma mf mw cj)) 0 0 (eM p he fa li sl be ov av bl kw sm ma mf mw cj) 4 [(0, .ref 0), (1, .int (iI (sI p.t.2.1 k))), (2, .int (iI k))] [] := by
  have h1 := h.1
  intro d
  induction d with
  | zero => intro k h2 h3 h4; omega
  | succ d ih =>
    intro k h2 h3 h4
    refine Z_iload_n 4 rfl rfl rfl ?_
    refine Z_aload_n 5 rfl rfl rfl ?_
    refine Z_get 6 rfl f_M_77 rfl rfl ?_
    refine Z_icmp_ge 7 rfl (tgt := 27) rfl (by omega) (by omega) (fun c9 => ?_) (fun c9 => ?_)
    · refine Z_iload_n 17 rfl rfl rfl ?_
      refine Z_iret 18 rfl rfl ⟨Nat.le_refl _, Nat.le_refl _⟩ ?_
      exact ⟨by rw [show k = p.t.2.2.2 by omega]; rfl, rfl⟩
    · refine Z_iload_n 8 rfl rfl rfl ?_
      refine Z_aload_n 9 rfl rfl rfl ?_
      refine Z_get 10 rfl f_M_15 rfl rfl ?_
      refine Z_iload_n 11 rfl rfl rfl ?_
      refine Z_ia 12 rfl rfl (by omega) (by decide) ?_
      refine Z_iadd 13 rfl ?_
      refine Z_ci (sI_s p.t.2.1 h2).symm ?_
      refine Z_istore_n 14 rfl rfl (Nat.le_of_ble_eq_true rfl) (lv' := [(1, .int _), (0, .ref _), (2, .int _)]) rfl ?_
      refine Z_iinc 15 rfl rfl (Nat.le_of_ble_eq_true rfl) (lv' := [(2, .int _), (1, .int _), (0, .ref _)]) rfl ?_
      refine Z_goto 16 rfl (tgt := 4) rfl ?_
      refine Z_pick [0, 1, 2] (lv' := [(0, .ref _), (1, .int _), (2, .int _)]) rfl ?_
      exact ih (k + 1) (by omega) (by omega) (by omega)
theorem c_M_total (h : TB p.t) : Con l M_M_total R_M_total 0 0 false [.ref 0] (eM p he fa li sl be ov av bl kw sm ma mf mw cj) (zAi (tot p.t) (fun m => m = eM p he fa li sl be ov av bl kw sm ma mf mw cj)) := by
  have h1 := h.1
  refine Con.of_Z (by decide) D_M_total (Nat.le_of_ble_eq_true rfl) ?_
  refine Z_iconst 0 rfl ?_
  refine Z_istore_n 1 rfl rfl (Nat.le_of_ble_eq_true rfl) (lv' := [(1, .int _), (0, .ref _)]) rfl ?_
  refine Z_iconst 2 rfl ?_
  refine Z_istore_n 3 rfl rfl (Nat.le_of_ble_eq_true rfl) (lv' := [(2, .int _), (1, .int _), (0, .ref _)]) rfl ?_
  refine Z_pick [0, 1, 2] (lv' := [(0, .ref _), (1, .int _), (2, .int _)]) rfl ?_
  exact lp_M_total l p he fa li sl be ov av bl kw sm ma mf mw cj h 13 0 (by omega) (by omega) (by omega)
theorem lp_M_begin (j : Int) (hj : 0 ≤ j ∧ j ≤ 12) : ∀ (d : Nat) (k : Int), 0 ≤ k → k ≤ j → j - k < d → Z (l, M_M_begin, R_M_begin, (0, 0), false, zAi (sI p.t.2.1 j) (fun m => m = eM p he fa li sl be ov av bl kw sm ma mf mw cj)) 0 0 (eM p he fa li sl be ov av bl kw sm ma mf mw cj) 4 [(0, .ref 0), (1, .int (iI j)), (2, .int (iI (sI p.t.2.1 k))), (3, .int (iI k))] [] := by
  intro d
  induction d with
  | zero => intro k h2 h3 h4; omega
  | succ d ih =>
    intro k h2 h3 h4
    refine Z_iload_n 4 rfl rfl rfl ?_
    refine Z_iload_n 5 rfl rfl rfl ?_
    refine Z_icmp_ge 6 rfl (tgt := 24) rfl (by omega) (by omega) (fun c6 => ?_) (fun c6 => ?_)
    · refine Z_iload_n 16 rfl rfl rfl ?_
      refine Z_iret 17 rfl rfl ⟨Nat.le_refl _, Nat.le_refl _⟩ ?_
      exact ⟨by rw [show k = j by omega], rfl⟩
    · refine Z_iload_n 7 rfl rfl rfl ?_
      refine Z_aload_n 8 rfl rfl rfl ?_
      refine Z_get 9 rfl f_M_15 rfl rfl ?_
      refine Z_iload_n 10 rfl rfl rfl ?_
      refine Z_ia 11 rfl rfl (by omega) (by decide) ?_
      refine Z_iadd 12 rfl ?_
      refine Z_ci (sI_s p.t.2.1 h2).symm ?_
      refine Z_istore_n 13 rfl rfl (Nat.le_of_ble_eq_true rfl) (lv' := [(2, .int _), (0, .ref _), (1, .int _), (3, .int _)]) rfl ?_
      refine Z_iinc 14 rfl rfl (Nat.le_of_ble_eq_true rfl) (lv' := [(3, .int _), (2, .int _), (0, .ref _), (1, .int _)]) rfl ?_
      refine Z_goto 15 rfl (tgt := 4) rfl ?_
      refine Z_pick [0, 1, 2, 3] (lv' := [(0, .ref _), (1, .int _), (2, .int _), (3, .int _)]) rfl ?_
      exact ih (k + 1) (by omega) (by omega) (by omega)
theorem c_M_begin (j : Int) (hj : 0 ≤ j ∧ j ≤ 12) : Con l M_M_begin R_M_begin 0 0 false [.ref 0, .int (iI j)] (eM p he fa li sl be ov av bl kw sm ma mf mw cj) (zAi (sI p.t.2.1 j) (fun m => m = eM p he fa li sl be ov av bl kw sm ma mf mw cj)) := by
  refine Con.of_Z (by decide) D_M_begin (Nat.le_of_ble_eq_true rfl) ?_
  refine Z_iconst 0 rfl ?_
  refine Z_istore_n 1 rfl rfl (Nat.le_of_ble_eq_true rfl) (lv' := [(2, .int _), (0, .ref _), (1, .int _)]) rfl ?_
  refine Z_iconst 2 rfl ?_
  refine Z_istore_n 3 rfl rfl (Nat.le_of_ble_eq_true rfl) (lv' := [(3, .int _), (2, .int _), (0, .ref _), (1, .int _)]) rfl ?_
  refine Z_pick [0, 1, 2, 3] (lv' := [(0, .ref _), (1, .int _), (2, .int _), (3, .int _)]) rfl ?_
  exact lp_M_begin l p he fa li sl be ov av bl kw sm ma mf mw cj j hj 13 0 (by omega) (by omega) (by omega)
theorem lp_M_ahead (j : Int) (hj : 0 ≤ j ∧ j ≤ 12) : ∀ (d : Nat) (k : Int), 0 ≤ k → k ≤ j → j - k < d → Z (l, M_M_ahead, R_M_ahead, (0, 0), false, zAi (sI p.t.2.2.1 j) (fun m => m = eM p he fa li sl be ov av bl kw sm ma mf mw cj)) 0 0 (eM p he fa li sl be ov av bl kw sm ma mf mw cj) 4 [(0, .ref 0), (1, .int (iI j)), (2, .int (iI (sI p.t.2.2.1 k))), (3, .int (iI k))] [] := by
  intro d
  induction d with
  | zero => intro k h2 h3 h4; omega
  | succ d ih =>
    intro k h2 h3 h4
    refine Z_iload_n 4 rfl rfl rfl ?_
    refine Z_iload_n 5 rfl rfl rfl ?_
    refine Z_icmp_ge 6 rfl (tgt := 24) rfl (by omega) (by omega) (fun c6 => ?_) (fun c6 => ?_)
    · refine Z_iload_n 16 rfl rfl rfl ?_
      refine Z_iret 17 rfl rfl ⟨Nat.le_refl _, Nat.le_refl _⟩ ?_
      exact ⟨by rw [show k = j by omega], rfl⟩
    · refine Z_iload_n 7 rfl rfl rfl ?_
      refine Z_aload_n 8 rfl rfl rfl ?_
      refine Z_get 9 rfl f_M_18 rfl rfl ?_
      refine Z_iload_n 10 rfl rfl rfl ?_
      refine Z_ia 11 rfl rfl (by omega) (by decide) ?_
      refine Z_iadd 12 rfl ?_
      refine Z_ci (sI_s p.t.2.2.1 h2).symm ?_
      refine Z_istore_n 13 rfl rfl (Nat.le_of_ble_eq_true rfl) (lv' := [(2, .int _), (0, .ref _), (1, .int _), (3, .int _)]) rfl ?_
      refine Z_iinc 14 rfl rfl (Nat.le_of_ble_eq_true rfl) (lv' := [(3, .int _), (2, .int _), (0, .ref _), (1, .int _)]) rfl ?_
      refine Z_goto 15 rfl (tgt := 4) rfl ?_
      refine Z_pick [0, 1, 2, 3] (lv' := [(0, .ref _), (1, .int _), (2, .int _), (3, .int _)]) rfl ?_
      exact ih (k + 1) (by omega) (by omega) (by omega)
theorem c_M_ahead (j : Int) (hj : 0 ≤ j ∧ j ≤ 12) : Con l M_M_ahead R_M_ahead 0 0 false [.ref 0, .int (iI j)] (eM p he fa li sl be ov av bl kw sm ma mf mw cj) (zAi (sI p.t.2.2.1 j) (fun m => m = eM p he fa li sl be ov av bl kw sm ma mf mw cj)) := by
  refine Con.of_Z (by decide) D_M_ahead (Nat.le_of_ble_eq_true rfl) ?_
  refine Z_iconst 0 rfl ?_
  refine Z_istore_n 1 rfl rfl (Nat.le_of_ble_eq_true rfl) (lv' := [(2, .int _), (0, .ref _), (1, .int _)]) rfl ?_
  refine Z_iconst 2 rfl ?_
  refine Z_istore_n 3 rfl rfl (Nat.le_of_ble_eq_true rfl) (lv' := [(3, .int _), (2, .int _), (0, .ref _), (1, .int _)]) rfl ?_
  refine Z_pick [0, 1, 2, 3] (lv' := [(0, .ref _), (1, .int _), (2, .int _), (3, .int _)]) rfl ?_
  exact lp_M_ahead l p he fa li sl be ov av bl kw sm ma mf mw cj j hj 13 0 (by omega) (by omega) (by omega)
theorem c_M_isClosed (h : TB p.t) : Con l M_M_isClosed R_M_isClosed 0 0 false [.ref 0] (eM p he fa li sl be ov av bl kw sm ma mf mw cj) (zAb (clo p.t) (fun m => m = eM p he fa li sl be ov av bl kw sm ma mf mw cj)) := by
  have h1 := h.1
  have h2 := tot_bd h
  have h3 := ah_bd h h1.2
  refine Con.of_Z (by decide) D_M_isClosed (Nat.le_of_ble_eq_true rfl) ?_
  refine Z_aload_n 0 rfl rfl rfl ?_
  refine Z_callVip (M' := M_M_total) 1 isM rfl l_M_88 C_M_total (c_M_total l p he fa li sl be ov av bl kw sm ma mf mw cj h) (emM ..) (Or.inl ⟨_, _, _, _, rfl, rfl⟩) rfl rfl rfl (Nat.le_of_ble_eq_true rfl) ⟨rfl, rfl, Nat.le_of_ble_eq_true rfl, Nat.le_of_ble_eq_true rfl⟩ ⟨Nat.zero_le _, Nat.zero_le _⟩ ?_
  refine Z_sipush 2 rfl rfl ?_
  refine Z_icmp_ne 3 rfl (tgt := 25) rfl (by omega) (by omega) (fun c7 => ?_) (fun c7 => ?_)
  · refine Z_iconst 11 rfl ?_
    refine Z_zret 12 rfl rfl rfl ⟨Nat.le_refl _, Nat.le_refl _⟩ ?_
    exact ⟨by first | rw [bI_t ⟨by omega, by first | assumption | (unfold ah at *; omega)⟩] | rw [bI_f (fun z => by have := z.1; have := z.2; unfold ah at *; omega)], rfl⟩
  · refine Z_aload_n 4 rfl rfl rfl ?_
    refine Z_aload_n 5 rfl rfl rfl ?_
    refine Z_get 6 rfl f_M_77 rfl rfl ?_
    refine Z_callVip (M' := M_M_ahead) 7 isM rfl l_M_92 C_M_ahead (c_M_ahead l p he fa li sl be ov av bl kw sm ma mf mw cj p.t.2.2.2 h1) (emM ..) (Or.inl ⟨_, _, _, _, rfl, rfl⟩) rfl rfl rfl (Nat.le_of_ble_eq_true rfl) ⟨rfl, rfl, Nat.le_of_ble_eq_true rfl, Nat.le_of_ble_eq_true rfl⟩ ⟨Nat.zero_le _, Nat.zero_le _⟩ ?_
    refine Z_if_ne 8 rfl (tgt := 25) rfl (by unfold ah at h3; omega) (fun c18 => ?_) (fun c18 => ?_)
    · refine Z_iconst 11 rfl ?_
      refine Z_zret 12 rfl rfl rfl ⟨Nat.le_refl _, Nat.le_refl _⟩ ?_
      exact ⟨by first | rw [bI_t ⟨by omega, by first | assumption | (unfold ah at *; omega)⟩] | rw [bI_f (fun z => by have := z.1; have := z.2; unfold ah at *; omega)], rfl⟩
    · refine Z_iconst 9 rfl ?_
      refine Z_goto 10 rfl (tgt := 26) rfl ?_
      refine Z_zret 12 rfl rfl rfl ⟨Nat.le_refl _, Nat.le_refl _⟩ ?_
      exact ⟨by first | rw [bI_t ⟨by omega, by first | assumption | (unfold ah at *; omega)⟩] | rw [bI_f (fun z => by have := z.1; have := z.2; unfold ah at *; omega)], rfl⟩
theorem c_M_isAngle (h : MV p) (a : Int) (ha : inI a) : Con l M_M_isAngle R_M_isAngle 0 0 false [.ref 0, .int (iI a)] (eM p he fa li sl be ov av bl kw sm ma mf mw cj) (zAb (0 < p.t.2.2.2 ∧ 0 ≤ a ∧ a ≤ tot p.t) (fun m => m = eM p he fa li sl be ov av bl kw sm ma mf mw cj)) := by
  have h1 := h.1.1.1
  have h2 := tot_bd h.1.1
  refine Con.of_Z (by decide) D_M_isAngle (Nat.le_of_ble_eq_true rfl) ?_
  refine Z_aload_n 0 rfl rfl rfl ?_
  refine Z_get 1 rfl f_M_77 rfl rfl ?_
  refine Z_if_le 2 rfl (tgt := 25) rfl (by omega) (fun c4 => ?_) (fun c4 => ?_)
  · refine Z_iconst 13 rfl ?_
    refine Z_zret 14 rfl rfl rfl ⟨Nat.le_refl _, Nat.le_refl _⟩ ?_
    exact ⟨by first | rw [bI_t (by omega)] | rw [bI_f (by omega)], rfl⟩
  · refine Z_iload_n 3 rfl rfl rfl ?_
    refine Z_i2l 4 rfl (by omega) ?_
    refine Z_lconst 5 rfl ?_
    refine Z_aload_n 6 rfl rfl rfl ?_
    refine Z_callVip (M' := M_M_total) 7 isM rfl l_M_88 C_M_total (c_M_total l p he fa li sl be ov av bl kw sm ma mf mw cj h.1.1) (emM ..) (Or.inl ⟨_, _, _, _, rfl, rfl⟩) rfl rfl rfl (Nat.le_of_ble_eq_true rfl) ⟨rfl, rfl, Nat.le_of_ble_eq_true rfl, Nat.le_of_ble_eq_true rfl⟩ ⟨Nat.zero_le _, Nat.zero_le _⟩ ?_
    refine Z_i2l 8 rfl (by omega) ?_
    refine Z_callSbp (M' := M_M_in) 9 [] rfl l_M_80 C_M_in (c_M_in l _ _ _ (by omega) (by omega) (by omega)) ⟨List.nodup_nil, zEL.n⟩ rfl rfl rfl (Nat.le_of_ble_eq_true rfl) ⟨rfl, rfl, Nat.le_of_ble_eq_true rfl, Nat.le_of_ble_eq_true rfl⟩ ⟨Nat.zero_le _, Nat.zero_le _⟩ ?_
    refine Z_ifb_eq 10 rfl (tgt := 25) rfl (fun c18 => ?_) (fun c18 => ?_)
    · refine Z_iconst 13 rfl ?_
      refine Z_zret 14 rfl rfl rfl ⟨Nat.le_refl _, Nat.le_refl _⟩ ?_
      exact ⟨by first | rw [bI_t (by omega)] | rw [bI_f (by omega)], rfl⟩
    · refine Z_iconst 11 rfl ?_
      refine Z_goto 12 rfl (tgt := 26) rfl ?_
      refine Z_zret 14 rfl rfl rfl ⟨Nat.le_refl _, Nat.le_refl _⟩ ?_
      exact ⟨by first | rw [bI_t (by omega)] | rw [bI_f (by omega)], rfl⟩
def FAt (a sd : Int) : List zE → Prop := fun m => ∃ he' fa', m = eM p he' fa' li sl be ov av bl kw sm ma mf mw cj ∧ ∀ k u, At p.t a sd k u → he' = k ∧ fa' = u
theorem lp_M_finds (h : MV p) (a sd : Int) (hsd : sd = 0 ∨ sd = 1) (ha : 0 ≤ a ∧ a ≤ tot p.t) (h0 : a = 0 → sd = 1) (h9 : a = tot p.t → sd = 0) : ∀ (d : Nat) (k : Int), 0 ≤ k → k < p.t.2.2.2 → p.t.2.2.2 - k < d → (sd = 0 → bg p.t k < a) → (sd = 1 → bg p.t k ≤ a) → Z (l, M_M_finds, R_M_finds, (0, 0), false, zAb (∃ k u, At p.t a sd k u) (FAt p li sl be ov av bl kw sm ma mf mw cj a sd)) 0 0 (eM p k (a - bg p.t k) li sl be ov av bl kw sm ma mf mw cj) 102 [(0, .ref 0), (1, .int (iI a)), (2, .int (iI sd))] [] := by
  have h1 := h.1.1.1
  have ht := tot_bd h.1.1
  have et : tot p.t = bg p.t p.t.2.2.2 := rfl
  intro d
  induction d with
  | zero => intro k h2 h3 h4; omega
  | succ d ih =>
    intro k h2 h3 h4 h5 h6
    have e := bg_s p.t h2
    have b := bg_bd h.1.1 (show k ≤ 12 by omega)
    have b2 := h.1.1.2.2.1 k
    have ek : k + 1 = p.t.2.2.2 → bg p.t (k + 1) = tot p.t := fun z => by rw [z]; rfl
    refine Z_aload_n 56 rfl rfl rfl ?_
    refine Z_get 57 rfl f_M_173 rfl rfl ?_
    refine Z_aload_n 58 rfl rfl rfl ?_
    refine Z_get 59 rfl f_M_15 rfl rfl ?_
    refine Z_aload_n 60 rfl rfl rfl ?_
    refine Z_get 61 rfl f_M_170 rfl rfl ?_
    refine Z_ia 62 rfl rfl (by omega) (by decide) ?_
    refine Z_icmp_gt 63 rfl (tgt := 139) rfl (by omega) (by omega) (fun c115 => ?_) (fun c115 => ?_)
    · refine Z_aload_n 75 rfl rfl rfl ?_
      refine Z_dup 76 rfl rfl ?_
      refine Z_get 77 rfl f_M_173 rfl rfl ?_
      refine Z_aload_n 78 rfl rfl rfl ?_
      refine Z_get 79 rfl f_M_15 rfl rfl ?_
      refine Z_aload_n 80 rfl rfl rfl ?_
      refine Z_get 81 rfl f_M_170 rfl rfl ?_
      refine Z_ia 82 rfl rfl (by omega) (by decide) ?_
      refine Z_isub 83 rfl ?_
      refine Z_put 84 rfl f_M_173 rfl (Nat.le_of_ble_eq_true rfl) (fun _ => ⟨rfl, rfl⟩) (fs' := []) (mem' := eM p k (a - bg p.t k - p.t.2.1 k) li sl be ov av bl kw sm ma mf mw cj) rfl ?_
      refine Z_aload_n 85 rfl rfl rfl ?_
      refine Z_dup 86 rfl rfl ?_
      refine Z_get 87 rfl f_M_170 rfl rfl ?_
      refine Z_iconst 88 rfl ?_
      refine Z_iadd 89 rfl ?_
      refine Z_put 90 rfl f_M_170 rfl (Nat.le_of_ble_eq_true rfl) (fun _ => ⟨rfl, rfl⟩) (fs' := []) (mem' := eM p (k + 1) (a - bg p.t k - p.t.2.1 k) li sl be ov av bl kw sm ma mf mw cj) rfl ?_
      refine Z_goto 91 rfl (tgt := 102) rfl ?_
      refine Z_pick [0, 1, 2] (lv' := [(0, .ref _), (1, .int _), (2, .int _)]) rfl ?_
      rw [show a - bg p.t k - p.t.2.1 k = a - bg p.t (k + 1) by omega]
      exact ih (k + 1) (by omega) (by omega) (by omega) (by omega) (by omega)
    · refine Z_iload_n 64 rfl rfl rfl ?_
      refine Z_iconst 65 rfl ?_
      refine Z_icmp_ne 66 rfl (tgt := 170) rfl (by omega) (by omega) (fun c120 => ?_) (fun c120 => ?_)
      · refine Z_iconst 92 rfl ?_
        refine Z_zret 93 rfl rfl rfl ⟨Nat.le_refl _, Nat.le_refl _⟩ ?_
        first
          | (exfalso; omega)
          | (have hA : At p.t a sd k (a - bg p.t k) := Or.inl ⟨h2, h3, by omega, by omega⟩
             exact ⟨bT ⟨_, _, hA⟩, _, _, rfl, fun k' u' hB => At_un h.1 hA hB⟩)
      · refine Z_aload_n 67 rfl rfl rfl ?_
        refine Z_get 68 rfl f_M_173 rfl rfl ?_
        refine Z_aload_n 69 rfl rfl rfl ?_
        refine Z_get 70 rfl f_M_15 rfl rfl ?_
        refine Z_aload_n 71 rfl rfl rfl ?_
        refine Z_get 72 rfl f_M_170 rfl rfl ?_
        refine Z_ia 73 rfl rfl (by omega) (by decide) ?_
        refine Z_icmp_ne 74 rfl (tgt := 170) rfl (by omega) (by omega) (fun c136 => ?_) (fun c136 => ?_)
        · refine Z_iconst 92 rfl ?_
          refine Z_zret 93 rfl rfl rfl ⟨Nat.le_refl _, Nat.le_refl _⟩ ?_
          first
            | (exfalso; omega)
            | (have hA : At p.t a sd k (a - bg p.t k) := Or.inl ⟨h2, h3, by omega, by omega⟩
               exact ⟨bT ⟨_, _, hA⟩, _, _, rfl, fun k' u' hB => At_un h.1 hA hB⟩)
        · refine Z_aload_n 75 rfl rfl rfl ?_
          refine Z_dup 76 rfl rfl ?_
          refine Z_get 77 rfl f_M_173 rfl rfl ?_
          refine Z_aload_n 78 rfl rfl rfl ?_
          refine Z_get 79 rfl f_M_15 rfl rfl ?_
          refine Z_aload_n 80 rfl rfl rfl ?_
          refine Z_get 81 rfl f_M_170 rfl rfl ?_
          refine Z_ia 82 rfl rfl (by omega) (by decide) ?_
          refine Z_isub 83 rfl ?_
          refine Z_put 84 rfl f_M_173 rfl (Nat.le_of_ble_eq_true rfl) (fun _ => ⟨rfl, rfl⟩) (fs' := []) (mem' := eM p k (a - bg p.t k - p.t.2.1 k) li sl be ov av bl kw sm ma mf mw cj) rfl ?_
          refine Z_aload_n 85 rfl rfl rfl ?_
          refine Z_dup 86 rfl rfl ?_
          refine Z_get 87 rfl f_M_170 rfl rfl ?_
          refine Z_iconst 88 rfl ?_
          refine Z_iadd 89 rfl ?_
          refine Z_put 90 rfl f_M_170 rfl (Nat.le_of_ble_eq_true rfl) (fun _ => ⟨rfl, rfl⟩) (fs' := []) (mem' := eM p (k + 1) (a - bg p.t k - p.t.2.1 k) li sl be ov av bl kw sm ma mf mw cj) rfl ?_
          refine Z_goto 91 rfl (tgt := 102) rfl ?_
          refine Z_pick [0, 1, 2] (lv' := [(0, .ref _), (1, .int _), (2, .int _)]) rfl ?_
          rw [show a - bg p.t k - p.t.2.1 k = a - bg p.t (k + 1) by omega]
          exact ih (k + 1) (by omega) (by omega) (by omega) (by omega) (by omega)
theorem c_M_finds (h : MV p) (a sd : Int) (ha : inI a) (hs : inI sd) : Con l M_M_finds R_M_finds 0 0 false [.ref 0, .int (iI a), .int (iI sd)] (eM p he fa li sl be ov av bl kw sm ma mf mw cj) (zAb (∃ k u, At p.t a sd k u) (FAt p li sl be ov av bl kw sm ma mf mw cj a sd)) := by
  have h1 := h.1.1.1
  have ht := tot_bd h.1.1
  have e0 := bg_0 p.t
  have hl := fun k => h.1.1.2.2.1 k
  refine Con.of_Z (by decide) D_M_finds (Nat.le_of_ble_eq_true rfl) ?_
  refine Z_aload_n 0 rfl rfl rfl ?_
  refine Z_iload_n 1 rfl rfl rfl ?_
  refine Z_callVbp (M' := M_M_isAngle) 2 isM rfl l_M_167 C_M_isAngle (c_M_isAngle l p he fa li sl be ov av bl kw sm ma mf mw cj h a ha) (emM ..) (Or.inl ⟨_, _, _, _, rfl, rfl⟩) rfl rfl rfl (Nat.le_of_ble_eq_true rfl) ⟨rfl, rfl, Nat.le_of_ble_eq_true rfl, Nat.le_of_ble_eq_true rfl⟩ ⟨Nat.zero_le _, Nat.zero_le _⟩ ?_
  refine Z_ifb_eq 3 rfl (tgt := 18) rfl (fun c5 => ?_) (fun c5 => ?_)
  · refine Z_iconst 10 rfl ?_
    refine Z_zret 11 rfl rfl rfl ⟨Nat.le_refl _, Nat.le_refl _⟩ ?_
    exact ⟨bF (fun ⟨k, u, hA⟩ => by have := At_in h.1 hA; omega), _, _, rfl, fun k u hA => by have := At_in h.1 hA; exfalso; omega⟩
  · refine Z_iload_n 4 rfl rfl rfl ?_
    refine Z_i2l 5 rfl (by omega) ?_
    refine Z_lconst 6 rfl ?_
    refine Z_lconst 7 rfl ?_
    refine Z_callSbp (M' := M_M_in) 8 [] rfl l_M_80 C_M_in (c_M_in l _ _ _ (by omega) (by omega) (by omega)) ⟨List.nodup_nil, zEL.n⟩ rfl rfl rfl (Nat.le_of_ble_eq_true rfl) ⟨rfl, rfl, Nat.le_of_ble_eq_true rfl, Nat.le_of_ble_eq_true rfl⟩ ⟨Nat.zero_le _, Nat.zero_le _⟩ ?_
    refine Z_ifb_ne 9 rfl (tgt := 20) rfl (fun c15 => ?_) (fun c15 => ?_)
    · refine Z_iload_n 12 rfl rfl rfl ?_
      refine Z_if_ne 13 rfl (tgt := 28) rfl (by omega) (fun c21 => ?_) (fun c21 => ?_)
      · refine Z_iload_n 16 rfl rfl rfl ?_
        refine Z_iconst 17 rfl ?_
        refine Z_icmp_ne 18 rfl (tgt := 92) rfl (by omega) (by omega) (fun c30 => ?_) (fun c30 => ?_)
        · refine Z_aload_n 50 rfl rfl rfl ?_
          refine Z_iconst 51 rfl ?_
          refine Z_put 52 rfl f_M_170 rfl (Nat.le_of_ble_eq_true rfl) (fun _ => ⟨rfl, rfl⟩) (fs' := []) (mem' := eM p 0 fa li sl be ov av bl kw sm ma mf mw cj) rfl ?_
          refine Z_aload_n 53 rfl rfl rfl ?_
          refine Z_iload_n 54 rfl rfl rfl ?_
          refine Z_put 55 rfl f_M_173 rfl (Nat.le_of_ble_eq_true rfl) (fun _ => ⟨rfl, rfl⟩) (fs' := []) (mem' := eM p 0 a li sl be ov av bl kw sm ma mf mw cj) rfl ?_
          refine Z_pick [0, 1, 2] (lv' := [(0, .ref _), (1, .int _), (2, .int _)]) rfl ?_
          have hz := lp_M_finds l p li sl be ov av bl kw sm ma mf mw cj h a sd (by omega) (by omega) (by omega) (by omega) 13 0 (by omega) (by omega) (by omega) (by omega) (by omega)
          rw [show a - bg p.t 0 = a by omega] at hz
          exact hz
        · refine Z_iload_n 19 rfl rfl rfl ?_
          refine Z_aload_n 20 rfl rfl rfl ?_
          refine Z_callVip (M' := M_M_total) 21 isM rfl l_M_88 C_M_total (c_M_total l p he fa li sl be ov av bl kw sm ma mf mw cj h.1.1) (emM ..) (Or.inl ⟨_, _, _, _, rfl, rfl⟩) rfl rfl rfl (Nat.le_of_ble_eq_true rfl) ⟨rfl, rfl, Nat.le_of_ble_eq_true rfl, Nat.le_of_ble_eq_true rfl⟩ ⟨Nat.zero_le _, Nat.zero_le _⟩ ?_
          refine Z_icmp_ne 22 rfl (tgt := 92) rfl (by omega) (by omega) (fun c38 => ?_) (fun c38 => ?_)
          · refine Z_aload_n 50 rfl rfl rfl ?_
            refine Z_iconst 51 rfl ?_
            refine Z_put 52 rfl f_M_170 rfl (Nat.le_of_ble_eq_true rfl) (fun _ => ⟨rfl, rfl⟩) (fs' := []) (mem' := eM p 0 fa li sl be ov av bl kw sm ma mf mw cj) rfl ?_
            refine Z_aload_n 53 rfl rfl rfl ?_
            refine Z_iload_n 54 rfl rfl rfl ?_
            refine Z_put 55 rfl f_M_173 rfl (Nat.le_of_ble_eq_true rfl) (fun _ => ⟨rfl, rfl⟩) (fs' := []) (mem' := eM p 0 a li sl be ov av bl kw sm ma mf mw cj) rfl ?_
            refine Z_pick [0, 1, 2] (lv' := [(0, .ref _), (1, .int _), (2, .int _)]) rfl ?_
            have hz := lp_M_finds l p li sl be ov av bl kw sm ma mf mw cj h a sd (by omega) (by omega) (by omega) (by omega) 13 0 (by omega) (by omega) (by omega) (by omega) (by omega)
            rw [show a - bg p.t 0 = a by omega] at hz
            exact hz
          · refine Z_aload_n 23 rfl rfl rfl ?_
            refine Z_callVbp (M' := M_M_isClosed) 24 isM rfl l_M_119 C_M_isClosed (c_M_isClosed l p he fa li sl be ov av bl kw sm ma mf mw cj h.1.1) (emM ..) (Or.inl ⟨_, _, _, _, rfl, rfl⟩) rfl rfl rfl (Nat.le_of_ble_eq_true rfl) ⟨rfl, rfl, Nat.le_of_ble_eq_true rfl, Nat.le_of_ble_eq_true rfl⟩ ⟨Nat.zero_le _, Nat.zero_le _⟩ ?_
            refine Z_ifb_ne 25 rfl (tgt := 50) rfl (fun c45 => ?_) (fun c45 => ?_)
            · refine Z_aload_n 28 rfl rfl rfl ?_
              refine Z_iload_n 29 rfl rfl rfl ?_
              refine Z_if_ne 30 rfl (tgt := 64) rfl (by omega) (fun c52 => ?_) (fun c52 => ?_)
              · refine Z_iconst 36 rfl ?_
                refine Z_put 37 rfl f_M_170 rfl (Nat.le_of_ble_eq_true rfl) (fun _ => ⟨rfl, rfl⟩) (fs' := []) (mem' := eM p _ fa li sl be ov av bl kw sm ma mf mw cj) rfl ?_
                refine Z_aload_n 38 rfl rfl rfl ?_
                refine Z_iload_n 39 rfl rfl rfl ?_
                refine Z_if_ne 40 rfl (tgt := 85) rfl (by omega) (fun c70 => ?_) (fun c70 => ?_)
                · refine Z_iconst 47 rfl ?_
                  refine Z_put 48 rfl f_M_173 rfl (Nat.le_of_ble_eq_true rfl) (fun _ => ⟨rfl, rfl⟩) (fs' := []) (mem' := eM p _ _ li sl be ov av bl kw sm ma mf mw cj) rfl ?_
                  refine Z_goto 49 rfl (tgt := 170) rfl ?_
                  refine Z_iconst 92 rfl ?_
                  refine Z_zret 93 rfl rfl rfl ⟨Nat.le_refl _, Nat.le_refl _⟩ ?_
                  first
                    | (exfalso; omega)
                    | (have hA : At p.t a sd (p.t.2.2.2 - 1) (p.t.2.1 (p.t.2.2.2 - 1)) := Or.inr ⟨c45, by omega, Or.inl ⟨by omega, by omega, rfl, rfl⟩⟩
                       exact ⟨bT ⟨_, _, hA⟩, _, _, rfl, fun k' u' hB => At_un h.1 hA hB⟩)
                    | (have hA : At p.t a sd 0 0 := Or.inr ⟨c45, by omega, Or.inr ⟨by omega, by omega, rfl, rfl⟩⟩
                       exact ⟨bT ⟨_, _, hA⟩, _, _, rfl, fun k' u' hB => At_un h.1 hA hB⟩)
                · refine Z_aload_n 41 rfl rfl rfl ?_
                  refine Z_get 42 rfl f_M_15 rfl rfl ?_
                  refine Z_aload_n 43 rfl rfl rfl ?_
                  refine Z_get 44 rfl f_M_170 rfl rfl ?_
                  refine Z_ia 45 rfl rfl (by omega) (by decide) ?_
                  refine Z_goto 46 rfl (tgt := 86) rfl ?_
                  refine Z_put 48 rfl f_M_173 rfl (Nat.le_of_ble_eq_true rfl) (fun _ => ⟨rfl, rfl⟩) (fs' := []) (mem' := eM p _ _ li sl be ov av bl kw sm ma mf mw cj) rfl ?_
                  refine Z_goto 49 rfl (tgt := 170) rfl ?_
                  refine Z_iconst 92 rfl ?_
                  refine Z_zret 93 rfl rfl rfl ⟨Nat.le_refl _, Nat.le_refl _⟩ ?_
                  first
                    | (exfalso; omega)
                    | (have hA : At p.t a sd (p.t.2.2.2 - 1) (p.t.2.1 (p.t.2.2.2 - 1)) := Or.inr ⟨c45, by omega, Or.inl ⟨by omega, by omega, rfl, rfl⟩⟩
                       exact ⟨bT ⟨_, _, hA⟩, _, _, rfl, fun k' u' hB => At_un h.1 hA hB⟩)
                    | (have hA : At p.t a sd 0 0 := Or.inr ⟨c45, by omega, Or.inr ⟨by omega, by omega, rfl, rfl⟩⟩
                       exact ⟨bT ⟨_, _, hA⟩, _, _, rfl, fun k' u' hB => At_un h.1 hA hB⟩)
              · refine Z_aload_n 31 rfl rfl rfl ?_
                refine Z_get 32 rfl f_M_77 rfl rfl ?_
                refine Z_iconst 33 rfl ?_
                refine Z_isub 34 rfl ?_
                refine Z_goto 35 rfl (tgt := 65) rfl ?_
                refine Z_put 37 rfl f_M_170 rfl (Nat.le_of_ble_eq_true rfl) (fun _ => ⟨rfl, rfl⟩) (fs' := []) (mem' := eM p _ fa li sl be ov av bl kw sm ma mf mw cj) rfl ?_
                refine Z_aload_n 38 rfl rfl rfl ?_
                refine Z_iload_n 39 rfl rfl rfl ?_
                refine Z_if_ne 40 rfl (tgt := 85) rfl (by omega) (fun c70 => ?_) (fun c70 => ?_)
                · refine Z_iconst 47 rfl ?_
                  refine Z_put 48 rfl f_M_173 rfl (Nat.le_of_ble_eq_true rfl) (fun _ => ⟨rfl, rfl⟩) (fs' := []) (mem' := eM p _ _ li sl be ov av bl kw sm ma mf mw cj) rfl ?_
                  refine Z_goto 49 rfl (tgt := 170) rfl ?_
                  refine Z_iconst 92 rfl ?_
                  refine Z_zret 93 rfl rfl rfl ⟨Nat.le_refl _, Nat.le_refl _⟩ ?_
                  first
                    | (exfalso; omega)
                    | (have hA : At p.t a sd (p.t.2.2.2 - 1) (p.t.2.1 (p.t.2.2.2 - 1)) := Or.inr ⟨c45, by omega, Or.inl ⟨by omega, by omega, rfl, rfl⟩⟩
                       exact ⟨bT ⟨_, _, hA⟩, _, _, rfl, fun k' u' hB => At_un h.1 hA hB⟩)
                    | (have hA : At p.t a sd 0 0 := Or.inr ⟨c45, by omega, Or.inr ⟨by omega, by omega, rfl, rfl⟩⟩
                       exact ⟨bT ⟨_, _, hA⟩, _, _, rfl, fun k' u' hB => At_un h.1 hA hB⟩)
                · refine Z_aload_n 41 rfl rfl rfl ?_
                  refine Z_get 42 rfl f_M_15 rfl rfl ?_
                  refine Z_aload_n 43 rfl rfl rfl ?_
                  refine Z_get 44 rfl f_M_170 rfl rfl ?_
                  refine Z_ia 45 rfl rfl (by omega) (by decide) ?_
                  refine Z_goto 46 rfl (tgt := 86) rfl ?_
                  refine Z_put 48 rfl f_M_173 rfl (Nat.le_of_ble_eq_true rfl) (fun _ => ⟨rfl, rfl⟩) (fs' := []) (mem' := eM p _ _ li sl be ov av bl kw sm ma mf mw cj) rfl ?_
                  refine Z_goto 49 rfl (tgt := 170) rfl ?_
                  refine Z_iconst 92 rfl ?_
                  refine Z_zret 93 rfl rfl rfl ⟨Nat.le_refl _, Nat.le_refl _⟩ ?_
                  first
                    | (exfalso; omega)
                    | (have hA : At p.t a sd (p.t.2.2.2 - 1) (p.t.2.1 (p.t.2.2.2 - 1)) := Or.inr ⟨c45, by omega, Or.inl ⟨by omega, by omega, rfl, rfl⟩⟩
                       exact ⟨bT ⟨_, _, hA⟩, _, _, rfl, fun k' u' hB => At_un h.1 hA hB⟩)
                    | (have hA : At p.t a sd 0 0 := Or.inr ⟨c45, by omega, Or.inr ⟨by omega, by omega, rfl, rfl⟩⟩
                       exact ⟨bT ⟨_, _, hA⟩, _, _, rfl, fun k' u' hB => At_un h.1 hA hB⟩)
            · refine Z_iconst 26 rfl ?_
              refine Z_zret 27 rfl rfl rfl ⟨Nat.le_refl _, Nat.le_refl _⟩ ?_
              first
                | exact ⟨bF (fun ⟨k, u, hA⟩ => c45 ((At_in h.1 hA).2.2.2.2.1 (by omega) (by omega))), _, _, rfl, fun k u hA => absurd ((At_in h.1 hA).2.2.2.2.1 (by omega) (by omega)) c45⟩
                | exact ⟨bF (fun ⟨k, u, hA⟩ => c45 ((At_in h.1 hA).2.2.2.2.2 (by omega) (by omega))), _, _, rfl, fun k u hA => absurd ((At_in h.1 hA).2.2.2.2.2 (by omega) (by omega)) c45⟩
      · refine Z_iload_n 14 rfl rfl rfl ?_
        refine Z_if_eq 15 rfl (tgt := 41) rfl (by omega) (fun c25 => ?_) (fun c25 => ?_)
        · refine Z_aload_n 23 rfl rfl rfl ?_
          refine Z_callVbp (M' := M_M_isClosed) 24 isM rfl l_M_119 C_M_isClosed (c_M_isClosed l p he fa li sl be ov av bl kw sm ma mf mw cj h.1.1) (emM ..) (Or.inl ⟨_, _, _, _, rfl, rfl⟩) rfl rfl rfl (Nat.le_of_ble_eq_true rfl) ⟨rfl, rfl, Nat.le_of_ble_eq_true rfl, Nat.le_of_ble_eq_true rfl⟩ ⟨Nat.zero_le _, Nat.zero_le _⟩ ?_
          refine Z_ifb_ne 25 rfl (tgt := 50) rfl (fun c45 => ?_) (fun c45 => ?_)
          · refine Z_aload_n 28 rfl rfl rfl ?_
            refine Z_iload_n 29 rfl rfl rfl ?_
            refine Z_if_ne 30 rfl (tgt := 64) rfl (by omega) (fun c52 => ?_) (fun c52 => ?_)
            · refine Z_iconst 36 rfl ?_
              refine Z_put 37 rfl f_M_170 rfl (Nat.le_of_ble_eq_true rfl) (fun _ => ⟨rfl, rfl⟩) (fs' := []) (mem' := eM p _ fa li sl be ov av bl kw sm ma mf mw cj) rfl ?_
              refine Z_aload_n 38 rfl rfl rfl ?_
              refine Z_iload_n 39 rfl rfl rfl ?_
              refine Z_if_ne 40 rfl (tgt := 85) rfl (by omega) (fun c70 => ?_) (fun c70 => ?_)
              · refine Z_iconst 47 rfl ?_
                refine Z_put 48 rfl f_M_173 rfl (Nat.le_of_ble_eq_true rfl) (fun _ => ⟨rfl, rfl⟩) (fs' := []) (mem' := eM p _ _ li sl be ov av bl kw sm ma mf mw cj) rfl ?_
                refine Z_goto 49 rfl (tgt := 170) rfl ?_
                refine Z_iconst 92 rfl ?_
                refine Z_zret 93 rfl rfl rfl ⟨Nat.le_refl _, Nat.le_refl _⟩ ?_
                first
                  | (exfalso; omega)
                  | (have hA : At p.t a sd (p.t.2.2.2 - 1) (p.t.2.1 (p.t.2.2.2 - 1)) := Or.inr ⟨c45, by omega, Or.inl ⟨by omega, by omega, rfl, rfl⟩⟩
                     exact ⟨bT ⟨_, _, hA⟩, _, _, rfl, fun k' u' hB => At_un h.1 hA hB⟩)
                  | (have hA : At p.t a sd 0 0 := Or.inr ⟨c45, by omega, Or.inr ⟨by omega, by omega, rfl, rfl⟩⟩
                     exact ⟨bT ⟨_, _, hA⟩, _, _, rfl, fun k' u' hB => At_un h.1 hA hB⟩)
              · refine Z_aload_n 41 rfl rfl rfl ?_
                refine Z_get 42 rfl f_M_15 rfl rfl ?_
                refine Z_aload_n 43 rfl rfl rfl ?_
                refine Z_get 44 rfl f_M_170 rfl rfl ?_
                refine Z_ia 45 rfl rfl (by omega) (by decide) ?_
                refine Z_goto 46 rfl (tgt := 86) rfl ?_
                refine Z_put 48 rfl f_M_173 rfl (Nat.le_of_ble_eq_true rfl) (fun _ => ⟨rfl, rfl⟩) (fs' := []) (mem' := eM p _ _ li sl be ov av bl kw sm ma mf mw cj) rfl ?_
                refine Z_goto 49 rfl (tgt := 170) rfl ?_
                refine Z_iconst 92 rfl ?_
                refine Z_zret 93 rfl rfl rfl ⟨Nat.le_refl _, Nat.le_refl _⟩ ?_
                first
                  | (exfalso; omega)
                  | (have hA : At p.t a sd (p.t.2.2.2 - 1) (p.t.2.1 (p.t.2.2.2 - 1)) := Or.inr ⟨c45, by omega, Or.inl ⟨by omega, by omega, rfl, rfl⟩⟩
                     exact ⟨bT ⟨_, _, hA⟩, _, _, rfl, fun k' u' hB => At_un h.1 hA hB⟩)
                  | (have hA : At p.t a sd 0 0 := Or.inr ⟨c45, by omega, Or.inr ⟨by omega, by omega, rfl, rfl⟩⟩
                     exact ⟨bT ⟨_, _, hA⟩, _, _, rfl, fun k' u' hB => At_un h.1 hA hB⟩)
            · refine Z_aload_n 31 rfl rfl rfl ?_
              refine Z_get 32 rfl f_M_77 rfl rfl ?_
              refine Z_iconst 33 rfl ?_
              refine Z_isub 34 rfl ?_
              refine Z_goto 35 rfl (tgt := 65) rfl ?_
              refine Z_put 37 rfl f_M_170 rfl (Nat.le_of_ble_eq_true rfl) (fun _ => ⟨rfl, rfl⟩) (fs' := []) (mem' := eM p _ fa li sl be ov av bl kw sm ma mf mw cj) rfl ?_
              refine Z_aload_n 38 rfl rfl rfl ?_
              refine Z_iload_n 39 rfl rfl rfl ?_
              refine Z_if_ne 40 rfl (tgt := 85) rfl (by omega) (fun c70 => ?_) (fun c70 => ?_)
              · refine Z_iconst 47 rfl ?_
                refine Z_put 48 rfl f_M_173 rfl (Nat.le_of_ble_eq_true rfl) (fun _ => ⟨rfl, rfl⟩) (fs' := []) (mem' := eM p _ _ li sl be ov av bl kw sm ma mf mw cj) rfl ?_
                refine Z_goto 49 rfl (tgt := 170) rfl ?_
                refine Z_iconst 92 rfl ?_
                refine Z_zret 93 rfl rfl rfl ⟨Nat.le_refl _, Nat.le_refl _⟩ ?_
                first
                  | (exfalso; omega)
                  | (have hA : At p.t a sd (p.t.2.2.2 - 1) (p.t.2.1 (p.t.2.2.2 - 1)) := Or.inr ⟨c45, by omega, Or.inl ⟨by omega, by omega, rfl, rfl⟩⟩
                     exact ⟨bT ⟨_, _, hA⟩, _, _, rfl, fun k' u' hB => At_un h.1 hA hB⟩)
                  | (have hA : At p.t a sd 0 0 := Or.inr ⟨c45, by omega, Or.inr ⟨by omega, by omega, rfl, rfl⟩⟩
                     exact ⟨bT ⟨_, _, hA⟩, _, _, rfl, fun k' u' hB => At_un h.1 hA hB⟩)
              · refine Z_aload_n 41 rfl rfl rfl ?_
                refine Z_get 42 rfl f_M_15 rfl rfl ?_
                refine Z_aload_n 43 rfl rfl rfl ?_
                refine Z_get 44 rfl f_M_170 rfl rfl ?_
                refine Z_ia 45 rfl rfl (by omega) (by decide) ?_
                refine Z_goto 46 rfl (tgt := 86) rfl ?_
                refine Z_put 48 rfl f_M_173 rfl (Nat.le_of_ble_eq_true rfl) (fun _ => ⟨rfl, rfl⟩) (fs' := []) (mem' := eM p _ _ li sl be ov av bl kw sm ma mf mw cj) rfl ?_
                refine Z_goto 49 rfl (tgt := 170) rfl ?_
                refine Z_iconst 92 rfl ?_
                refine Z_zret 93 rfl rfl rfl ⟨Nat.le_refl _, Nat.le_refl _⟩ ?_
                first
                  | (exfalso; omega)
                  | (have hA : At p.t a sd (p.t.2.2.2 - 1) (p.t.2.1 (p.t.2.2.2 - 1)) := Or.inr ⟨c45, by omega, Or.inl ⟨by omega, by omega, rfl, rfl⟩⟩
                     exact ⟨bT ⟨_, _, hA⟩, _, _, rfl, fun k' u' hB => At_un h.1 hA hB⟩)
                  | (have hA : At p.t a sd 0 0 := Or.inr ⟨c45, by omega, Or.inr ⟨by omega, by omega, rfl, rfl⟩⟩
                     exact ⟨bT ⟨_, _, hA⟩, _, _, rfl, fun k' u' hB => At_un h.1 hA hB⟩)
          · refine Z_iconst 26 rfl ?_
            refine Z_zret 27 rfl rfl rfl ⟨Nat.le_refl _, Nat.le_refl _⟩ ?_
            first
              | exact ⟨bF (fun ⟨k, u, hA⟩ => c45 ((At_in h.1 hA).2.2.2.2.1 (by omega) (by omega))), _, _, rfl, fun k u hA => absurd ((At_in h.1 hA).2.2.2.2.1 (by omega) (by omega)) c45⟩
              | exact ⟨bF (fun ⟨k, u, hA⟩ => c45 ((At_in h.1 hA).2.2.2.2.2 (by omega) (by omega))), _, _, rfl, fun k u hA => absurd ((At_in h.1 hA).2.2.2.2.2 (by omega) (by omega)) c45⟩
        · refine Z_iload_n 16 rfl rfl rfl ?_
          refine Z_iconst 17 rfl ?_
          refine Z_icmp_ne 18 rfl (tgt := 92) rfl (by omega) (by omega) (fun c30 => ?_) (fun c30 => ?_)
          · refine Z_aload_n 50 rfl rfl rfl ?_
            refine Z_iconst 51 rfl ?_
            refine Z_put 52 rfl f_M_170 rfl (Nat.le_of_ble_eq_true rfl) (fun _ => ⟨rfl, rfl⟩) (fs' := []) (mem' := eM p 0 fa li sl be ov av bl kw sm ma mf mw cj) rfl ?_
            refine Z_aload_n 53 rfl rfl rfl ?_
            refine Z_iload_n 54 rfl rfl rfl ?_
            refine Z_put 55 rfl f_M_173 rfl (Nat.le_of_ble_eq_true rfl) (fun _ => ⟨rfl, rfl⟩) (fs' := []) (mem' := eM p 0 a li sl be ov av bl kw sm ma mf mw cj) rfl ?_
            refine Z_pick [0, 1, 2] (lv' := [(0, .ref _), (1, .int _), (2, .int _)]) rfl ?_
            have hz := lp_M_finds l p li sl be ov av bl kw sm ma mf mw cj h a sd (by omega) (by omega) (by omega) (by omega) 13 0 (by omega) (by omega) (by omega) (by omega) (by omega)
            rw [show a - bg p.t 0 = a by omega] at hz
            exact hz
          · refine Z_iload_n 19 rfl rfl rfl ?_
            refine Z_aload_n 20 rfl rfl rfl ?_
            refine Z_callVip (M' := M_M_total) 21 isM rfl l_M_88 C_M_total (c_M_total l p he fa li sl be ov av bl kw sm ma mf mw cj h.1.1) (emM ..) (Or.inl ⟨_, _, _, _, rfl, rfl⟩) rfl rfl rfl (Nat.le_of_ble_eq_true rfl) ⟨rfl, rfl, Nat.le_of_ble_eq_true rfl, Nat.le_of_ble_eq_true rfl⟩ ⟨Nat.zero_le _, Nat.zero_le _⟩ ?_
            refine Z_icmp_ne 22 rfl (tgt := 92) rfl (by omega) (by omega) (fun c38 => ?_) (fun c38 => ?_)
            · refine Z_aload_n 50 rfl rfl rfl ?_
              refine Z_iconst 51 rfl ?_
              refine Z_put 52 rfl f_M_170 rfl (Nat.le_of_ble_eq_true rfl) (fun _ => ⟨rfl, rfl⟩) (fs' := []) (mem' := eM p 0 fa li sl be ov av bl kw sm ma mf mw cj) rfl ?_
              refine Z_aload_n 53 rfl rfl rfl ?_
              refine Z_iload_n 54 rfl rfl rfl ?_
              refine Z_put 55 rfl f_M_173 rfl (Nat.le_of_ble_eq_true rfl) (fun _ => ⟨rfl, rfl⟩) (fs' := []) (mem' := eM p 0 a li sl be ov av bl kw sm ma mf mw cj) rfl ?_
              refine Z_pick [0, 1, 2] (lv' := [(0, .ref _), (1, .int _), (2, .int _)]) rfl ?_
              have hz := lp_M_finds l p li sl be ov av bl kw sm ma mf mw cj h a sd (by omega) (by omega) (by omega) (by omega) 13 0 (by omega) (by omega) (by omega) (by omega) (by omega)
              rw [show a - bg p.t 0 = a by omega] at hz
              exact hz
            · refine Z_aload_n 23 rfl rfl rfl ?_
              refine Z_callVbp (M' := M_M_isClosed) 24 isM rfl l_M_119 C_M_isClosed (c_M_isClosed l p he fa li sl be ov av bl kw sm ma mf mw cj h.1.1) (emM ..) (Or.inl ⟨_, _, _, _, rfl, rfl⟩) rfl rfl rfl (Nat.le_of_ble_eq_true rfl) ⟨rfl, rfl, Nat.le_of_ble_eq_true rfl, Nat.le_of_ble_eq_true rfl⟩ ⟨Nat.zero_le _, Nat.zero_le _⟩ ?_
              refine Z_ifb_ne 25 rfl (tgt := 50) rfl (fun c45 => ?_) (fun c45 => ?_)
              · refine Z_aload_n 28 rfl rfl rfl ?_
                refine Z_iload_n 29 rfl rfl rfl ?_
                refine Z_if_ne 30 rfl (tgt := 64) rfl (by omega) (fun c52 => ?_) (fun c52 => ?_)
                · refine Z_iconst 36 rfl ?_
                  refine Z_put 37 rfl f_M_170 rfl (Nat.le_of_ble_eq_true rfl) (fun _ => ⟨rfl, rfl⟩) (fs' := []) (mem' := eM p _ fa li sl be ov av bl kw sm ma mf mw cj) rfl ?_
                  refine Z_aload_n 38 rfl rfl rfl ?_
                  refine Z_iload_n 39 rfl rfl rfl ?_
                  refine Z_if_ne 40 rfl (tgt := 85) rfl (by omega) (fun c70 => ?_) (fun c70 => ?_)
                  · refine Z_iconst 47 rfl ?_
                    refine Z_put 48 rfl f_M_173 rfl (Nat.le_of_ble_eq_true rfl) (fun _ => ⟨rfl, rfl⟩) (fs' := []) (mem' := eM p _ _ li sl be ov av bl kw sm ma mf mw cj) rfl ?_
                    refine Z_goto 49 rfl (tgt := 170) rfl ?_
                    refine Z_iconst 92 rfl ?_
                    refine Z_zret 93 rfl rfl rfl ⟨Nat.le_refl _, Nat.le_refl _⟩ ?_
                    first
                      | (exfalso; omega)
                      | (have hA : At p.t a sd (p.t.2.2.2 - 1) (p.t.2.1 (p.t.2.2.2 - 1)) := Or.inr ⟨c45, by omega, Or.inl ⟨by omega, by omega, rfl, rfl⟩⟩
                         exact ⟨bT ⟨_, _, hA⟩, _, _, rfl, fun k' u' hB => At_un h.1 hA hB⟩)
                      | (have hA : At p.t a sd 0 0 := Or.inr ⟨c45, by omega, Or.inr ⟨by omega, by omega, rfl, rfl⟩⟩
                         exact ⟨bT ⟨_, _, hA⟩, _, _, rfl, fun k' u' hB => At_un h.1 hA hB⟩)
                  · refine Z_aload_n 41 rfl rfl rfl ?_
                    refine Z_get 42 rfl f_M_15 rfl rfl ?_
                    refine Z_aload_n 43 rfl rfl rfl ?_
                    refine Z_get 44 rfl f_M_170 rfl rfl ?_
                    refine Z_ia 45 rfl rfl (by omega) (by decide) ?_
                    refine Z_goto 46 rfl (tgt := 86) rfl ?_
                    refine Z_put 48 rfl f_M_173 rfl (Nat.le_of_ble_eq_true rfl) (fun _ => ⟨rfl, rfl⟩) (fs' := []) (mem' := eM p _ _ li sl be ov av bl kw sm ma mf mw cj) rfl ?_
                    refine Z_goto 49 rfl (tgt := 170) rfl ?_
                    refine Z_iconst 92 rfl ?_
                    refine Z_zret 93 rfl rfl rfl ⟨Nat.le_refl _, Nat.le_refl _⟩ ?_
                    first
                      | (exfalso; omega)
                      | (have hA : At p.t a sd (p.t.2.2.2 - 1) (p.t.2.1 (p.t.2.2.2 - 1)) := Or.inr ⟨c45, by omega, Or.inl ⟨by omega, by omega, rfl, rfl⟩⟩
                         exact ⟨bT ⟨_, _, hA⟩, _, _, rfl, fun k' u' hB => At_un h.1 hA hB⟩)
                      | (have hA : At p.t a sd 0 0 := Or.inr ⟨c45, by omega, Or.inr ⟨by omega, by omega, rfl, rfl⟩⟩
                         exact ⟨bT ⟨_, _, hA⟩, _, _, rfl, fun k' u' hB => At_un h.1 hA hB⟩)
                · refine Z_aload_n 31 rfl rfl rfl ?_
                  refine Z_get 32 rfl f_M_77 rfl rfl ?_
                  refine Z_iconst 33 rfl ?_
                  refine Z_isub 34 rfl ?_
                  refine Z_goto 35 rfl (tgt := 65) rfl ?_
                  refine Z_put 37 rfl f_M_170 rfl (Nat.le_of_ble_eq_true rfl) (fun _ => ⟨rfl, rfl⟩) (fs' := []) (mem' := eM p _ fa li sl be ov av bl kw sm ma mf mw cj) rfl ?_
                  refine Z_aload_n 38 rfl rfl rfl ?_
                  refine Z_iload_n 39 rfl rfl rfl ?_
                  refine Z_if_ne 40 rfl (tgt := 85) rfl (by omega) (fun c70 => ?_) (fun c70 => ?_)
                  · refine Z_iconst 47 rfl ?_
                    refine Z_put 48 rfl f_M_173 rfl (Nat.le_of_ble_eq_true rfl) (fun _ => ⟨rfl, rfl⟩) (fs' := []) (mem' := eM p _ _ li sl be ov av bl kw sm ma mf mw cj) rfl ?_
                    refine Z_goto 49 rfl (tgt := 170) rfl ?_
                    refine Z_iconst 92 rfl ?_
                    refine Z_zret 93 rfl rfl rfl ⟨Nat.le_refl _, Nat.le_refl _⟩ ?_
                    first
                      | (exfalso; omega)
                      | (have hA : At p.t a sd (p.t.2.2.2 - 1) (p.t.2.1 (p.t.2.2.2 - 1)) := Or.inr ⟨c45, by omega, Or.inl ⟨by omega, by omega, rfl, rfl⟩⟩
                         exact ⟨bT ⟨_, _, hA⟩, _, _, rfl, fun k' u' hB => At_un h.1 hA hB⟩)
                      | (have hA : At p.t a sd 0 0 := Or.inr ⟨c45, by omega, Or.inr ⟨by omega, by omega, rfl, rfl⟩⟩
                         exact ⟨bT ⟨_, _, hA⟩, _, _, rfl, fun k' u' hB => At_un h.1 hA hB⟩)
                  · refine Z_aload_n 41 rfl rfl rfl ?_
                    refine Z_get 42 rfl f_M_15 rfl rfl ?_
                    refine Z_aload_n 43 rfl rfl rfl ?_
                    refine Z_get 44 rfl f_M_170 rfl rfl ?_
                    refine Z_ia 45 rfl rfl (by omega) (by decide) ?_
                    refine Z_goto 46 rfl (tgt := 86) rfl ?_
                    refine Z_put 48 rfl f_M_173 rfl (Nat.le_of_ble_eq_true rfl) (fun _ => ⟨rfl, rfl⟩) (fs' := []) (mem' := eM p _ _ li sl be ov av bl kw sm ma mf mw cj) rfl ?_
                    refine Z_goto 49 rfl (tgt := 170) rfl ?_
                    refine Z_iconst 92 rfl ?_
                    refine Z_zret 93 rfl rfl rfl ⟨Nat.le_refl _, Nat.le_refl _⟩ ?_
                    first
                      | (exfalso; omega)
                      | (have hA : At p.t a sd (p.t.2.2.2 - 1) (p.t.2.1 (p.t.2.2.2 - 1)) := Or.inr ⟨c45, by omega, Or.inl ⟨by omega, by omega, rfl, rfl⟩⟩
                         exact ⟨bT ⟨_, _, hA⟩, _, _, rfl, fun k' u' hB => At_un h.1 hA hB⟩)
                      | (have hA : At p.t a sd 0 0 := Or.inr ⟨c45, by omega, Or.inr ⟨by omega, by omega, rfl, rfl⟩⟩
                         exact ⟨bT ⟨_, _, hA⟩, _, _, rfl, fun k' u' hB => At_un h.1 hA hB⟩)
              · refine Z_iconst 26 rfl ?_
                refine Z_zret 27 rfl rfl rfl ⟨Nat.le_refl _, Nat.le_refl _⟩ ?_
                first
                  | exact ⟨bF (fun ⟨k, u, hA⟩ => c45 ((At_in h.1 hA).2.2.2.2.1 (by omega) (by omega))), _, _, rfl, fun k u hA => absurd ((At_in h.1 hA).2.2.2.2.1 (by omega) (by omega)) c45⟩
                  | exact ⟨bF (fun ⟨k, u, hA⟩ => c45 ((At_in h.1 hA).2.2.2.2.2 (by omega) (by omega))), _, _, rfl, fun k u hA => absurd ((At_in h.1 hA).2.2.2.2.2 (by omega) (by omega)) c45⟩
    · refine Z_iconst 10 rfl ?_
      refine Z_zret 11 rfl rfl rfl ⟨Nat.le_refl _, Nat.le_refl _⟩ ?_
      exact ⟨bF (fun ⟨k, u, hA⟩ => by have := At_in h.1 hA; omega), _, _, rfl, fun k u hA => by have := At_in h.1 hA; exfalso; omega⟩
def mpL (t : TT) (k u : Int) : Int := ah t k * o5 (t.2.1 k) + t.2.2.1 k * shr (t.1 k) u (t.2.1 k)
def mpS (t : TT) (k u : Int) : Int := t.2.2.1 k * shs (t.1 k) u (t.2.1 k)
def mpB (t : TT) (k u : Int) : Int := t.2.2.1 k * shb (t.1 k) u (t.2.1 k)
def mpO (t : TT) (k : Int) : Int := o5 (t.2.1 k)
/-- the model looks at a place: as the class's numbers, so many times -/
theorem mp_e {t : TT} (h : TV t) {k u : Int} (hk : 0 ≤ k ∧ k < t.2.2.2) : ∃ c, 1 ≤ c ∧ mpL t k u = c * lf (pl t k u) ∧ mpS t k u = c * (pl t k u).2.2.1 ∧ mpB t k u = c * (pl t k u).2.2.2.1 ∧ mpO t k = c * (pl t k u).1 := by
  have hm := h.2.2 k hk.1 hk.2
  unfold mb at hm
  refine ⟨cf (t.1 k) (t.2.1 k), cf_pos hm.2.1.1, ?_, ?_, ?_, ?_⟩
  · exact sp_lift _ _ _ _ _ hm.1
  · exact sp_slope _ _ _ (ah t k) _ hm.1
  · exact sp_bend _ _ _ (ah t k) _ hm.1
  · exact sp_over _ _ (t.2.2.1 k) (ah t k) u hm.1
theorem mp_bd {t : TT} (h : TV t) {k u : Int} (hk : 0 ≤ k ∧ k < t.2.2.2) (hu : 0 ≤ u ∧ u ≤ t.2.1 k) : (-7781996851200000 ≤ mpL t k u ∧ mpL t k u ≤ 7781996851200000) ∧ (-49884595200000 ≤ mpS t k u ∧ mpS t k u ≤ 49884595200000) ∧ (-69284160000 ≤ mpB t k u ∧ mpB t k u ≤ 69284160000) ∧ (1 ≤ mpO t k ∧ mpO t k ≤ 6046617600000) := by
  have h1 := h.1.1
  have hm := h.2.2 k hk.1 hk.2
  unfold mb at hm
  have ha := ah_bd h.1 (show k ≤ 12 by omega)
  have h5 := o5_bd hm.2.1
  have b2 := shr_bd hm.1 hm.2.1.1 hu
  have b3 := shs_bd hm.1 hm.2.1 hu
  have b4 := shb_bd hm.1 hm.2.1 hu
  have r2 := mul_ab hm.2.2.1 (show -6046617600000 ≤ shr (t.1 k) u (t.2.1 k) ∧ shr (t.1 k) u (t.2.1 k) ≤ 6046617600000 by omega)
  have r3 := mul_ab hm.2.2.1 (show -503884800000 ≤ shs (t.1 k) u (t.2.1 k) ∧ shs (t.1 k) u (t.2.1 k) ≤ 503884800000 by omega)
  have r4 := mul_ab hm.2.2.1 b4
  have r5 := mul_ab ha (show -6046617600000 ≤ o5 (t.2.1 k) ∧ o5 (t.2.1 k) ≤ 6046617600000 by omega)
  unfold mpL mpS mpB mpO
  omega
def LAt (a sd : Int) : List zE → Prop := fun m => ∃ he' fa' li' sl' be' ov', m = eM p he' fa' li' sl' be' ov' av bl kw sm ma mf mw cj ∧ ∀ k u, At p.t a sd k u → he' = k ∧ fa' = u ∧ li' = mpL p.t k u ∧ sl' = mpS p.t k u ∧ be' = mpB p.t k u ∧ ov' = mpO p.t k
theorem c_M_looks (h : MV p) (a sd : Int) (ha : inI a) (hs : inI sd) : Con l M_M_looks R_M_looks 0 0 false [.ref 0, .int (iI a), .int (iI sd)] (eM p he fa li sl be ov av bl kw sm ma mf mw cj) (zAb (∃ k u, At p.t a sd k u) (LAt p av bl kw sm ma mf mw cj a sd)) := by
  have hl := fun k => h.1.1.2.2.1 k
  have hr := fun k => h.1.1.2.2.2 k
  have hkd := fun k => h.1.1.2.1 k
  refine Con.of_Z (by decide) D_M_looks (Nat.le_of_ble_eq_true rfl) ?_
  refine Z_aload_n 0 rfl rfl rfl ?_
  refine Z_iload_n 1 rfl rfl rfl ?_
  refine Z_iload_n 2 rfl rfl rfl ?_
  refine Z_callVb (M' := M_M_finds) 3 isM rfl l_M_176 C_M_finds (c_M_finds l p he fa li sl be ov av bl kw sm ma mf mw cj h a sd ha hs) (emM ..) (Or.inl ⟨_, _, _, _, rfl, rfl⟩) rfl rfl rfl (Nat.le_of_ble_eq_true rfl) ⟨rfl, rfl, Nat.le_of_ble_eq_true rfl, Nat.le_of_ble_eq_true rfl⟩ ⟨Nat.zero_le _, Nat.zero_le _⟩ (fun out hq => ?_)
  obtain ⟨he', fa', rfl, hf⟩ := hq
  refine Z_mem (mgM ..) ?_
  refine Z_ifb_ne 4 rfl (tgt := 11) rfl (fun c6 => ?_) (fun c6 => ?_)
  · obtain ⟨kk, uu, hA⟩ := c6
    obtain ⟨e1, e2⟩ := hf kk uu hA
    rw [e1, e2]
    have hI := At_in h.1 hA
    have hlk := hl kk
    have hrk := hr kk
    have hkk := hkd kk
    have hak := ah_bd h.1.1 (show kk ≤ 12 by omega)
    refine Z_aload_n 7 rfl rfl rfl ?_
    refine Z_get 8 rfl f_M_15 rfl rfl ?_
    refine Z_aload_n 9 rfl rfl rfl ?_
    refine Z_get 10 rfl f_M_170 rfl rfl ?_
    refine Z_ia 11 rfl rfl (by omega) (by decide) ?_
    refine Z_istore_n 12 rfl rfl (Nat.le_of_ble_eq_true rfl) (lv' := [(3, .int _), (0, .ref _), (1, .int _), (2, .int _)]) rfl ?_
    refine Z_aload_n 13 rfl rfl rfl ?_
    refine Z_iload_n 14 rfl rfl rfl ?_
    refine Z_i2l 15 rfl (by omega) ?_
    refine Z_callSlp (M' := M_M_fifth) 16 [] rfl l_M_152 C_M_fifth (c_M_fifth l (p.t.2.1 kk)) ⟨List.nodup_nil, zEL.n⟩ rfl rfl rfl (Nat.le_of_ble_eq_true rfl) ⟨rfl, rfl, Nat.le_of_ble_eq_true rfl, Nat.le_of_ble_eq_true rfl⟩ ⟨Nat.zero_le _, Nat.zero_le _⟩ ?_
    refine Z_put 17 rfl f_M_179 rfl (Nat.le_of_ble_eq_true rfl) (fun _ => ⟨rfl, rfl⟩) (fs' := []) (mem' := eM p kk uu li sl be (mpO p.t kk) av bl kw sm ma mf mw cj) rfl ?_
    refine Z_aload_n 18 rfl rfl rfl ?_
    refine Z_aload_n 19 rfl rfl rfl ?_
    refine Z_aload_n 20 rfl rfl rfl ?_
    refine Z_get 21 rfl f_M_170 rfl rfl ?_
    refine Z_callVip (M' := M_M_ahead) 22 isM rfl l_M_92 C_M_ahead (c_M_ahead l p kk uu li sl be (mpO p.t kk) av bl kw sm ma mf mw cj kk (by omega)) (emM ..) (Or.inl ⟨_, _, _, _, rfl, rfl⟩) rfl rfl rfl (Nat.le_of_ble_eq_true rfl) ⟨rfl, rfl, Nat.le_of_ble_eq_true rfl, Nat.le_of_ble_eq_true rfl⟩ ⟨Nat.zero_le _, Nat.zero_le _⟩ ?_
    refine Z_i2l 23 rfl (by unfold ah at hak; omega) ?_
    refine Z_aload_n 24 rfl rfl rfl ?_
    refine Z_get 25 rfl f_M_179 rfl rfl ?_
    refine Z_lmul 26 rfl ?_
    refine Z_aload_n 27 rfl rfl rfl ?_
    refine Z_get 28 rfl f_M_18 rfl rfl ?_
    refine Z_aload_n 29 rfl rfl rfl ?_
    refine Z_get 30 rfl f_M_170 rfl rfl ?_
    refine Z_ia 31 rfl rfl (by omega) (by decide) ?_
    refine Z_i2l 32 rfl (by omega) ?_
    refine Z_aload_n 33 rfl rfl rfl ?_
    refine Z_get 34 rfl f_M_11 rfl rfl ?_
    refine Z_aload_n 35 rfl rfl rfl ?_
    refine Z_get 36 rfl f_M_170 rfl rfl ?_
    refine Z_ia 37 rfl rfl (by omega) (by decide) ?_
    refine Z_aload_n 38 rfl rfl rfl ?_
    refine Z_get 39 rfl f_M_173 rfl rfl ?_
    refine Z_i2l 40 rfl (by omega) ?_
    refine Z_iload_n 41 rfl rfl rfl ?_
    refine Z_i2l 42 rfl (by omega) ?_
    refine Z_callSlp (M' := M_M_share) 43 [] rfl l_M_183 C_M_share (c_M_share l (p.t.1 kk) uu (p.t.2.1 kk) (by omega)) ⟨List.nodup_nil, zEL.n⟩ rfl rfl rfl (Nat.le_of_ble_eq_true rfl) ⟨rfl, rfl, Nat.le_of_ble_eq_true rfl, Nat.le_of_ble_eq_true rfl⟩ ⟨Nat.zero_le _, Nat.zero_le _⟩ ?_
    refine Z_lmul 44 rfl ?_
    refine Z_ladd 45 rfl ?_
    refine Z_put 46 rfl f_M_187 rfl (Nat.le_of_ble_eq_true rfl) (fun _ => ⟨rfl, rfl⟩) (fs' := []) (mem' := eM p kk uu (mpL p.t kk uu) sl be (mpO p.t kk) av bl kw sm ma mf mw cj) rfl ?_
    refine Z_aload_n 47 rfl rfl rfl ?_
    refine Z_aload_n 48 rfl rfl rfl ?_
    refine Z_get 49 rfl f_M_18 rfl rfl ?_
    refine Z_aload_n 50 rfl rfl rfl ?_
    refine Z_get 51 rfl f_M_170 rfl rfl ?_
    refine Z_ia 52 rfl rfl (by omega) (by decide) ?_
    refine Z_i2l 53 rfl (by omega) ?_
    refine Z_aload_n 54 rfl rfl rfl ?_
    refine Z_get 55 rfl f_M_11 rfl rfl ?_
    refine Z_aload_n 56 rfl rfl rfl ?_
    refine Z_get 57 rfl f_M_170 rfl rfl ?_
    refine Z_ia 58 rfl rfl (by omega) (by decide) ?_
    refine Z_aload_n 59 rfl rfl rfl ?_
    refine Z_get 60 rfl f_M_173 rfl rfl ?_
    refine Z_i2l 61 rfl (by omega) ?_
    refine Z_iload_n 62 rfl rfl rfl ?_
    refine Z_i2l 63 rfl (by omega) ?_
    refine Z_callSlp (M' := M_M_shareSlope) 64 [] rfl l_M_190 C_M_shareSlope (c_M_shareSlope l (p.t.1 kk) uu (p.t.2.1 kk) (by omega)) ⟨List.nodup_nil, zEL.n⟩ rfl rfl rfl (Nat.le_of_ble_eq_true rfl) ⟨rfl, rfl, Nat.le_of_ble_eq_true rfl, Nat.le_of_ble_eq_true rfl⟩ ⟨Nat.zero_le _, Nat.zero_le _⟩ ?_
    refine Z_lmul 65 rfl ?_
    refine Z_put 66 rfl f_M_193 rfl (Nat.le_of_ble_eq_true rfl) (fun _ => ⟨rfl, rfl⟩) (fs' := []) (mem' := eM p kk uu (mpL p.t kk uu) (mpS p.t kk uu) be (mpO p.t kk) av bl kw sm ma mf mw cj) rfl ?_
    refine Z_aload_n 67 rfl rfl rfl ?_
    refine Z_aload_n 68 rfl rfl rfl ?_
    refine Z_get 69 rfl f_M_18 rfl rfl ?_
    refine Z_aload_n 70 rfl rfl rfl ?_
    refine Z_get 71 rfl f_M_170 rfl rfl ?_
    refine Z_ia 72 rfl rfl (by omega) (by decide) ?_
    refine Z_i2l 73 rfl (by omega) ?_
    refine Z_aload_n 74 rfl rfl rfl ?_
    refine Z_get 75 rfl f_M_11 rfl rfl ?_
    refine Z_aload_n 76 rfl rfl rfl ?_
    refine Z_get 77 rfl f_M_170 rfl rfl ?_
    refine Z_ia 78 rfl rfl (by omega) (by decide) ?_
    refine Z_aload_n 79 rfl rfl rfl ?_
    refine Z_get 80 rfl f_M_173 rfl rfl ?_
    refine Z_i2l 81 rfl (by omega) ?_
    refine Z_iload_n 82 rfl rfl rfl ?_
    refine Z_i2l 83 rfl (by omega) ?_
    refine Z_callSlp (M' := M_M_shareBend) 84 [] rfl l_M_196 C_M_shareBend (c_M_shareBend l (p.t.1 kk) uu (p.t.2.1 kk) (by omega)) ⟨List.nodup_nil, zEL.n⟩ rfl rfl rfl (Nat.le_of_ble_eq_true rfl) ⟨rfl, rfl, Nat.le_of_ble_eq_true rfl, Nat.le_of_ble_eq_true rfl⟩ ⟨Nat.zero_le _, Nat.zero_le _⟩ ?_
    refine Z_lmul 85 rfl ?_
    refine Z_put 86 rfl f_M_199 rfl (Nat.le_of_ble_eq_true rfl) (fun _ => ⟨rfl, rfl⟩) (fs' := []) (mem' := eM p kk uu (mpL p.t kk uu) (mpS p.t kk uu) (mpB p.t kk uu) (mpO p.t kk) av bl kw sm ma mf mw cj) rfl ?_
    refine Z_iconst 87 rfl ?_
    refine Z_zret 88 rfl rfl rfl ⟨Nat.le_refl _, Nat.le_refl _⟩ ?_
    exact ⟨bT ⟨kk, uu, hA⟩, _, _, _, _, _, _, rfl, fun k' u' hB => by
      obtain ⟨e3, e4⟩ := At_un h.1 hA hB
      rw [← e3, ← e4]
      exact ⟨rfl, rfl, rfl, rfl, rfl, rfl⟩⟩
  · refine Z_iconst 5 rfl ?_
    refine Z_zret 6 rfl rfl rfl ⟨Nat.le_refl _, Nat.le_refl _⟩ ?_
    exact ⟨bF c6, _, _, _, _, _, _, rfl, fun k u hA => absurd ⟨k, u, hA⟩ c6⟩
end M1
