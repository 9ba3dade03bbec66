/-! the model: a piece read -/
def S3R (b : Int → Int) (n pla k L r a f w : Int) : Prop := (f = -1 ∧ PR b n pla = (1, k, L, r, a)) ∨ (f ≠ -1 ∧ PR b n pla = (0, f, w, 0, 0))
def S2R (b : Int → Int) (n pla k L a f w : Int) : Prop := (f = -1 ∧ kd2 b n pla = k ∧ k ≠ -1 ∧ bt b n (wE b n pla) = 32 ∧ (1 ≤ L ∧ L ≤ 360) ∧ L = (fg b n 3 (wE b n pla + 1) 0).1 ∧ a = (fg b n 3 (wE b n pla + 1) 0).2) ∨ (f ≠ -1 ∧ PR b n pla = (0, f, w, 0, 0))
def S1R (b : Int → Int) (n pla k a f w : Int) : Prop := (f = -1 ∧ kd2 b n pla = k ∧ k ≠ -1 ∧ bt b n (wE b n pla) = 32 ∧ a = wE b n pla + 1) ∨ (f ≠ -1 ∧ PR b n pla = (0, f, w, 0, 0))
theorem s1_of {b : Int → Int} {n pla k mw a f w : Int} (hk : kd2 b n pla = k) (hk1 : k ≠ -1) (hT : TKR b n 32 (wE b n pla) (-1) mw a f w) (hp : 0 ≤ wE b n pla) : S1R b n pla k a f w := by
  rcases hT with z | ⟨-, z1, z2, z3, z4⟩ | ⟨-, z1, z2, z3, z4⟩
  · exact absurd rfl z.1
  · exact Or.inl ⟨z3, hk, hk1, z1, z2⟩
  · refine Or.inr ⟨by omega, ?_⟩
    unfold PR PR3
    rw [if_neg (by omega), if_neg z1, z3, z4]
    rfl
theorem s2_of {b : Int → Int} {n pla k a f w a1 f1 w1 L f2 w2 : Int} (h1 : S1R b n pla k a f w) (hF : FGR b n 3 a 2 a f w L a1 f1 w1) (ha : 0 ≤ a) (e : (f1 = -1 ∧ ¬ (1 ≤ L ∧ L ≤ 360) ∧ f2 = a ∧ w2 = 2) ∨ (¬ (f1 = -1 ∧ ¬ (1 ≤ L ∧ L ≤ 360)) ∧ f2 = f1 ∧ w2 = w1)) : S2R b n pla k L a1 f2 w2 := by
  rcases h1 with ⟨z1, z2, z3, z4, z5⟩ | ⟨z1, z2⟩
  · rcases hF with y | ⟨-, y1, y2, y3, y4, y5⟩ | ⟨-, y1, y2, y3, y4, y5⟩
    · exact absurd z1 y.1
    · by_cases x : 1 ≤ L ∧ L ≤ 360
      · exact Or.inl ⟨by omega, z2, z3, z4, x, by rw [y2, z5], by rw [y3, z5]⟩
      · have hn : a < n := bt_f y1
        refine Or.inr ⟨by omega, ?_⟩
        unfold PR PR3
        rw [z5] at y2
        rw [if_neg (by omega), if_pos z4, if_pos (by omega)]
        unfold fl
        rw [if_neg (by omega), show f2 = wE b n pla + 1 by omega, show w2 = 2 by omega]
    · refine Or.inr ⟨by omega, ?_⟩
      have hf0 : (fg b n 3 (wE b n pla + 1) 0).1 = 0 := by
        rw [z5] at y1
        rw [fg_f y1]
      unfold PR PR3
      rw [if_neg (by omega), if_pos z4, if_pos (by omega)]
      unfold fl
      rw [show f2 = wE b n pla + 1 by omega, show w2 = (if wE b n pla + 1 = n then 5 else 2) by rw [z5] at y5; omega]
  · rcases hF with ⟨y1, y2, y3, y4, y5⟩ | y | y
    · refine Or.inr ⟨by omega, ?_⟩
      rw [show f2 = f by omega, show w2 = w by omega]
      exact z2
    · exact absurd y.1 z1
    · exact absurd y.1 z1
theorem s3_0 {b : Int → Int} {n pla k L a f w : Int} (h2 : S2R b n pla k L a f w) (hk : k = 0) : S3R b n pla k L 0 a f w := by
  rcases h2 with ⟨z1, z2, z3, z4, z5, z6, z7⟩ | z
  · refine Or.inl ⟨z1, ?_⟩
    unfold PR PR3 PR4
    rw [if_neg (by omega), if_pos z4, if_neg (by omega), if_pos (by omega), z2, ← z6, ← z7]
  · exact Or.inr z
theorem s3_of {b : Int → Int} {n pla k L a f w a1 f1 w1 mn am rv a2 f2 w2 f3 w3 r : Int} (h2 : S2R b n pla k L a f w) (hk : k ≠ 0) (ha : 0 ≤ a) (hT : TKR b n 32 a f w a1 f1 w1) (hmn : (mn = 1 ∧ f1 = -1 ∧ bt b n a1 = 45) ∨ (mn = 0 ∧ ¬ (f1 = -1 ∧ bt b n a1 = 45))) (ham : am = a1 + mn) (hF : FGR b n 2 a1 3 am f1 w1 rv a2 f2 w2) (e : (f2 = -1 ∧ rv = 0 ∧ f3 = a1 ∧ w3 = 3) ∨ (¬ (f2 = -1 ∧ rv = 0) ∧ f3 = f2 ∧ w3 = w2)) (hr : r = if mn = 1 then -rv else rv) : S3R b n pla k L r a2 f3 w3 := by
  rcases h2 with ⟨z1, z2, z3, z4, z5, z6, z7⟩ | ⟨z1, z2⟩
  · rcases hT with y | ⟨-, y1, y2, y3, y4⟩ | ⟨-, y1, y2, y3, y4⟩
    · exact absurd z1 y.1
    · have ePR : PR b n pla = PR5 b n k L a1 := by
        unfold PR PR3 PR4
        rw [if_neg (by omega), if_pos z4, if_neg (by omega), if_neg (by omega), ← z7, if_pos y1, z2, ← z6, ← y2]
      have erv : rv = (fg b n 2 am 0).1 ∧ ((f2 = -1 ∧ a2 = (fg b n 2 am 0).2 ∧ isF (bt b n am)) ∨ (f2 = a1 ∧ rv = 0 ∧ w2 = (if a1 = n then 5 else 3))) := by
        rcases hF with x | ⟨-, x1, x2, x3, x4, x5⟩ | ⟨-, x1, x2, x3, x4, x5⟩
        · exact absurd y3 x.1
        · exact ⟨x2, Or.inl ⟨x4, x3, x1⟩⟩
        · rw [fg_f x1]
          exact ⟨x2, Or.inr ⟨x4, x2, x5⟩⟩
      have eV : rsV b n a1 = r ∧ rsP b n a1 = (fg b n 2 am 0).2 := by
        unfold rsV rsP
        rcases hmn with ⟨x1, x2, x3⟩ | ⟨x1, x2⟩
        · rw [if_pos x3, if_pos x3, hr, if_pos x1, erv.1, ham, x1]
          exact ⟨rfl, rfl⟩
        · rw [if_neg (fun q => x2 ⟨y3, q⟩), if_neg (fun q => x2 ⟨y3, q⟩), hr, if_neg (by omega), erv.1, ham, x1, Int.add_zero]
          exact ⟨rfl, rfl⟩
      have er0 : r = 0 ↔ rv = 0 := by
        rw [hr]
        split <;> omega
      rcases erv.2 with ⟨x1, x2, x3⟩ | ⟨x1, x2, x3⟩
      · by_cases q : rv = 0
        · refine Or.inr ⟨by omega, ?_⟩
          have hn2 : am < n := bt_f x3
          rw [ePR]
          unfold PR5 fl
          rw [eV.1, if_pos (er0.mpr q), if_neg (by omega), show f3 = a1 by omega, show w3 = 3 by omega]
        · refine Or.inl ⟨by omega, ?_⟩
          rw [ePR]
          unfold PR5
          rw [eV.1, eV.2, if_neg (fun y => q (er0.mp y)), x2]
      · refine Or.inr ⟨by omega, ?_⟩
        rw [ePR]
        unfold PR5 fl
        rw [eV.1, if_pos (er0.mpr x2), show f3 = a1 by omega, show w3 = (if a1 = n then 5 else 3) by omega]
    · have ePR : PR b n pla = fl n a 4 := by
        unfold PR PR3 PR4
        rw [if_neg (by omega), if_pos z4, if_neg (by omega), if_neg (by omega), ← z7, if_neg y1]
      rcases hF with ⟨x1, x2, x3, x4, x5⟩ | x | x
      · refine Or.inr ⟨by omega, ?_⟩
        rw [ePR]
        unfold fl
        rw [show f3 = a by omega, show w3 = (if a = n then 5 else 4) by omega]
      · exact absurd x.1 (by omega)
      · exact absurd x.1 (by omega)
  · rcases hT with ⟨y1, y2, y3, y4⟩ | y | y
    · rcases hF with ⟨x1, x2, x3, x4, x5⟩ | x | x
      · refine Or.inr ⟨by omega, ?_⟩
        rw [show f3 = f by omega, show w3 = w by omega]
        exact z2
      · exact absurd x.1 (by omega)
      · exact absurd x.1 (by omega)
    · exact absurd y.1 z1
    · exact absurd y.1 z1
section M13
variable (l : Launch) (p : MP) (he fa li sl be ov av bl : Int) (kw sm : Int → Int)
/-- behind a piece -/
def PRM (pla : Int) (cj : TT) : List zE → Prop := fun m =>
  ((PR p.tb p.ts pla).1 ≠ 0 ∧ ∃ w, m = eM p he fa li sl be ov av bl kw sm (PR p.tb p.ts pla).2.2.2.2 (-1) w (tAp cj (PR p.tb p.ts pla).2.1 (PR p.tb p.ts pla).2.2.1 (PR p.tb p.ts pla).2.2.2.1)) ∨
  ((PR p.tb p.ts pla).1 = 0 ∧ (PR p.tb p.ts pla).2.1 ≠ -1 ∧ ∃ a, m = eM p he fa li sl be ov av bl kw sm a (PR p.tb p.ts pla).2.1 (PR p.tb p.ts pla).2.2.1 cj)
theorem wo_x {ma mw : Int} {cj : TT} {m : List zE} (h : WoM p he fa li sl be ov av bl kw sm ma (-1) mw cj m) : ∃ a f w, m = eM p he fa li sl be ov av bl kw sm a f w cj ∧ ((kd2 p.tb p.ts ma = -1 ∧ a = ma ∧ f = ma ∧ w = (if ma = p.ts then 5 else 1)) ∨ (kd2 p.tb p.ts ma ≠ -1 ∧ a = wE p.tb p.ts ma ∧ f = -1 ∧ w = mw)) := by
  unfold WoM flM at h
  refine ⟨_, _, _, h, ?_⟩
  by_cases z : kd2 p.tb p.ts ma = -1
  · refine Or.inl ⟨z, ?_, ?_, ?_⟩
    · rw [if_pos z]
    · rw [if_pos z, if_pos rfl]
    · rw [if_pos z, if_pos rfl]
  · refine Or.inr ⟨z, ?_, ?_, ?_⟩
    · rw [if_neg z]
    · rw [if_neg z]
    · rw [if_neg z]
theorem lp3_M_pieceRead (pla k L r a f w : Int) (cj : TT) (hf : inI f) (h3 : S3R p.tb p.ts pla k L r a f w) (hcj : 0 ≤ cj.2.2.2 ∧ cj.2.2.2 < 120) : Z (l, M_M_pieceRead, R_M_pieceRead, (0, 0), false, zAv (PRM p he fa li sl be ov av bl kw sm pla cj)) 0 0 (eM p he fa li sl be ov av bl kw sm a f w cj) 163 [(0, .ref 0), (1, .int (iI k)), (3, .int (iI L)), (4, .int (iI r))] [] := by
  refine Z_aload_n 89 rfl rfl rfl ?_
  refine Z_get 90 rfl f_M_321 rfl rfl ?_
  refine Z_iconst 91 rfl ?_
  refine Z_icmp_eq 92 rfl (tgt := 172) rfl (by omega) (by omega) (fun c168 => ?_) (fun c168 => ?_)
  · refine Z_aload_n 94 rfl rfl rfl ?_
    refine Z_get 95 rfl f_M_44 rfl rfl ?_
    refine Z_aload_n 96 rfl rfl rfl ?_
    refine Z_get 97 rfl f_M_356 rfl rfl ?_
    refine Z_iload_n 98 rfl rfl rfl ?_
    refine Z_ias 99 rfl rfl (by omega) (by decide) (mem' := eM p he fa li sl be ov av bl kw sm a f w (uI cj.1 cj.2.2.2 k, cj.2)) rfl ?_
    refine Z_aload_n 100 rfl rfl rfl ?_
    refine Z_get 101 rfl f_M_47 rfl rfl ?_
    refine Z_aload_n 102 rfl rfl rfl ?_
    refine Z_get 103 rfl f_M_356 rfl rfl ?_
    refine Z_iload_n 104 rfl rfl rfl ?_
    refine Z_ias 105 rfl rfl (by omega) (by decide) (mem' := eM p he fa li sl be ov av bl kw sm a f w (uI cj.1 cj.2.2.2 k, uI cj.2.1 cj.2.2.2 L, cj.2.2)) rfl ?_
    refine Z_aload_n 106 rfl rfl rfl ?_
    refine Z_get 107 rfl f_M_50 rfl rfl ?_
    refine Z_aload_n 108 rfl rfl rfl ?_
    refine Z_get 109 rfl f_M_356 rfl rfl ?_
    refine Z_iload 110 rfl rfl ?_
    refine Z_ias 111 rfl rfl (by omega) (by decide) (mem' := eM p he fa li sl be ov av bl kw sm a f w (uI cj.1 cj.2.2.2 k, uI cj.2.1 cj.2.2.2 L, uI cj.2.2.1 cj.2.2.2 r, cj.2.2.2)) rfl ?_
    refine Z_aload_n 112 rfl rfl rfl ?_
    refine Z_dup 113 rfl rfl ?_
    refine Z_get 114 rfl f_M_356 rfl rfl ?_
    refine Z_iconst 115 rfl ?_
    refine Z_iadd 116 rfl ?_
    refine Z_put 117 rfl f_M_356 rfl (Nat.le_of_ble_eq_true rfl) (fun _ => ⟨rfl, rfl⟩) (fs' := []) (mem' := eM p he fa li sl be ov av bl kw sm a f w (tAp cj k L r)) rfl ?_
    refine Z_vret 118 rfl rfl ⟨Nat.le_refl _, Nat.le_refl _⟩ ?_
    rcases h3 with ⟨z, e⟩ | z
    · exact ⟨rfl, Or.inl ⟨by rw [e]; exact (show (1 : Int) ≠ 0 by omega), w, by rw [e, z]⟩⟩
    · exact absurd (show f = -1 by omega) z.1
  · refine Z_vret 93 rfl rfl ⟨Nat.le_refl _, Nat.le_refl _⟩ ?_
    rcases h3 with z | ⟨z, e⟩
    · exact absurd z.1 (by omega)
    · exact ⟨rfl, Or.inr ⟨by rw [e], by rw [e]; exact z, a, by rw [e]⟩⟩
theorem lpB_M_pieceRead (h : MV p) (pla k L a f w a1 f1 w1 mn am : Int) (cj : TT) (hk : inI k) (hk0 : k ≠ 0) (ha : 0 ≤ a ∧ a ≤ p.ts) (hf1 : inI f1) (ha1 : 0 ≤ a1 ∧ a1 ≤ p.ts) (ham : am = a1 + mn) (ham2 : 0 ≤ am ∧ am ≤ p.ts) (h2 : S2R p.tb p.ts pla k L a f w) (hT : TKR p.tb p.ts 32 a f w a1 f1 w1) (hmn : (mn = 1 ∧ f1 = -1 ∧ bt p.tb p.ts a1 = 45) ∨ (mn = 0 ∧ ¬ (f1 = -1 ∧ bt p.tb p.ts a1 = 45))) (hcj : 0 ≤ cj.2.2.2 ∧ cj.2.2.2 < 120) : Z (l, M_M_pieceRead, R_M_pieceRead, (0, 0), false, zAv (PRM p he fa li sl be ov av bl kw sm pla cj)) 0 0 (eM p he fa li sl be ov av bl kw sm am f1 w1 cj) 120 [(0, .ref 0), (1, .int (iI k)), (2, .int (iI a1)), (3, .int (iI L)), (5, .int (iI mn))] [] := by
  have hts := h.2.2.2.2.2.1
  refine Z_aload_n 66 rfl rfl rfl ?_
  refine Z_iconst 67 rfl ?_
  refine Z_iload_n 68 rfl rfl rfl ?_
  refine Z_iconst 69 rfl ?_
  refine Z_callVi (M' := M_M_figures) 70 isM rfl l_M_352 C_M_figures (c_M_figures l p he fa li sl be ov av bl kw sm h 2 2 rfl (by omega) a1 3 am f1 w1 cj hf1 ham2 ha1 (by omega)) (emM ..) (Or.inl ⟨_, _, _, _, rfl, rfl⟩) rfl rfl rfl (Nat.le_of_ble_eq_true rfl) ⟨rfl, rfl, Nat.le_of_ble_eq_true rfl, Nat.le_of_ble_eq_true rfl⟩ ⟨Nat.zero_le _, Nat.zero_le _⟩ (fun out hq => ?_)
  obtain ⟨a2, f2, w2, rfl, hF⟩ := hq
  refine Z_mem (mgM ..) ?_
  obtain ⟨rv, hrv⟩ : ∃ rv, rv = fgV p.tb p.ts 2 am f1 := ⟨_, rfl⟩
  rw [← hrv] at hF
  rw [← hrv]
  have hrb : (0 ≤ rv ∧ rv ≤ 99) ∧ inI f2 := by
    have q := fg2_bd p.tb ham2.2
    unfold FGR at hF
    refine ⟨?_, by omega⟩
    rw [hrv]
    unfold fgV
    split <;> omega
  refine Z_istore 71 rfl (Nat.le_of_ble_eq_true rfl) (lv' := [(4, .int _), (0, .ref _), (1, .int _), (2, .int _), (3, .int _), (5, .int _)]) rfl ?_
  refine Z_aload_n 72 rfl rfl rfl ?_
  refine Z_get 73 rfl f_M_321 rfl rfl ?_
  refine Z_iconst 74 rfl ?_
  refine Z_icmp_ne 75 rfl (tgt := 148) rfl (by omega) (by omega) (fun c134 => ?_) (fun c134 => ?_)
  · refine Z_iload 82 rfl rfl ?_
    refine Z_if_eq 83 rfl (tgt := 159) rfl (by omega) (fun c150 => ?_) (fun c150 => ?_)
    · refine Z_iload 87 rfl rfl ?_
      refine Z_istore 88 rfl (Nat.le_of_ble_eq_true rfl) (lv' := [(4, .int _), (0, .ref _), (1, .int _), (2, .int _), (3, .int _), (5, .int _)]) rfl ?_
      refine Z_pick [0, 1, 3, 4] (lv' := [(0, .ref _), (1, .int _), (3, .int _), (4, .int _)]) rfl ?_
      first
        | (exfalso; omega)
        | exact lp3_M_pieceRead l p he fa li sl be ov av bl kw sm pla k L _ a2 _ _ cj (by omega) (s3_of h2 hk0 ha.1 hT hmn ham hF (by omega) (by first | rw [if_pos (by omega)] | rw [if_neg (by omega)])) hcj
    · refine Z_iload 84 rfl rfl ?_
      refine Z_ineg 85 rfl ?_
      refine Z_goto 86 rfl (tgt := 161) rfl ?_
      refine Z_istore 88 rfl (Nat.le_of_ble_eq_true rfl) (lv' := [(4, .int _), (0, .ref _), (1, .int _), (2, .int _), (3, .int _), (5, .int _)]) rfl ?_
      refine Z_pick [0, 1, 3, 4] (lv' := [(0, .ref _), (1, .int _), (3, .int _), (4, .int _)]) rfl ?_
      first
        | (exfalso; omega)
        | exact lp3_M_pieceRead l p he fa li sl be ov av bl kw sm pla k L _ a2 _ _ cj (by omega) (s3_of h2 hk0 ha.1 hT hmn ham hF (by omega) (by first | rw [if_pos (by omega)] | rw [if_neg (by omega)])) hcj
  · refine Z_iload 76 rfl rfl ?_
    refine Z_if_ne 77 rfl (tgt := 148) rfl (by omega) (fun c139 => ?_) (fun c139 => ?_)
    · refine Z_iload 82 rfl rfl ?_
      refine Z_if_eq 83 rfl (tgt := 159) rfl (by omega) (fun c150 => ?_) (fun c150 => ?_)
      · refine Z_iload 87 rfl rfl ?_
        refine Z_istore 88 rfl (Nat.le_of_ble_eq_true rfl) (lv' := [(4, .int _), (0, .ref _), (1, .int _), (2, .int _), (3, .int _), (5, .int _)]) rfl ?_
        refine Z_pick [0, 1, 3, 4] (lv' := [(0, .ref _), (1, .int _), (3, .int _), (4, .int _)]) rfl ?_
        first
          | (exfalso; omega)
          | exact lp3_M_pieceRead l p he fa li sl be ov av bl kw sm pla k L _ a2 _ _ cj (by omega) (s3_of h2 hk0 ha.1 hT hmn ham hF (by omega) (by first | rw [if_pos (by omega)] | rw [if_neg (by omega)])) hcj
      · refine Z_iload 84 rfl rfl ?_
        refine Z_ineg 85 rfl ?_
        refine Z_goto 86 rfl (tgt := 161) rfl ?_
        refine Z_istore 88 rfl (Nat.le_of_ble_eq_true rfl) (lv' := [(4, .int _), (0, .ref _), (1, .int _), (2, .int _), (3, .int _), (5, .int _)]) rfl ?_
        refine Z_pick [0, 1, 3, 4] (lv' := [(0, .ref _), (1, .int _), (3, .int _), (4, .int _)]) rfl ?_
        first
          | (exfalso; omega)
          | exact lp3_M_pieceRead l p he fa li sl be ov av bl kw sm pla k L _ a2 _ _ cj (by omega) (s3_of h2 hk0 ha.1 hT hmn ham hF (by omega) (by first | rw [if_pos (by omega)] | rw [if_neg (by omega)])) hcj
    · refine Z_aload_n 78 rfl rfl rfl ?_
      refine Z_iload_n 79 rfl rfl rfl ?_
      refine Z_iconst 80 rfl ?_
      refine Z_callVv (M' := M_M_fails) 81 isM rfl l_M_330 C_M_fails (c_M_fails l p he fa li sl be ov av bl kw sm a2 f2 w2 a1 3 cj hrb.2) (emM ..) (Or.inl ⟨_, _, _, _, rfl, rfl⟩) rfl rfl rfl (Nat.le_of_ble_eq_true rfl) ⟨rfl, rfl, Nat.le_of_ble_eq_true rfl, Nat.le_of_ble_eq_true rfl⟩ ⟨Nat.zero_le _, Nat.zero_le _⟩ (fun out hq => ?_)
      obtain rfl := hq
      refine Z_mem (mgM ..) ?_
      rw [show flM f2 a1 f2 = a1 by unfold flM; rw [if_pos (by omega)], show flM f2 3 w2 = 3 by unfold flM; rw [if_pos (by omega)]]
      refine Z_iload 82 rfl rfl ?_
      refine Z_if_eq 83 rfl (tgt := 159) rfl (by omega) (fun c150 => ?_) (fun c150 => ?_)
      · refine Z_iload 87 rfl rfl ?_
        refine Z_istore 88 rfl (Nat.le_of_ble_eq_true rfl) (lv' := [(4, .int _), (0, .ref _), (1, .int _), (2, .int _), (3, .int _), (5, .int _)]) rfl ?_
        refine Z_pick [0, 1, 3, 4] (lv' := [(0, .ref _), (1, .int _), (3, .int _), (4, .int _)]) rfl ?_
        first
          | (exfalso; omega)
          | exact lp3_M_pieceRead l p he fa li sl be ov av bl kw sm pla k L _ a2 _ _ cj (by omega) (s3_of h2 hk0 ha.1 hT hmn ham hF (by omega) (by first | rw [if_pos (by omega)] | rw [if_neg (by omega)])) hcj
      · refine Z_iload 84 rfl rfl ?_
        refine Z_ineg 85 rfl ?_
        refine Z_goto 86 rfl (tgt := 161) rfl ?_
        refine Z_istore 88 rfl (Nat.le_of_ble_eq_true rfl) (lv' := [(4, .int _), (0, .ref _), (1, .int _), (2, .int _), (3, .int _), (5, .int _)]) rfl ?_
        refine Z_pick [0, 1, 3, 4] (lv' := [(0, .ref _), (1, .int _), (3, .int _), (4, .int _)]) rfl ?_
        first
          | (exfalso; omega)
          | exact lp3_M_pieceRead l p he fa li sl be ov av bl kw sm pla k L _ a2 _ _ cj (by omega) (s3_of h2 hk0 ha.1 hT hmn ham hF (by omega) (by first | rw [if_pos (by omega)] | rw [if_neg (by omega)])) hcj
theorem lp2_M_pieceRead (h : MV p) (pla k L a f w : Int) (cj : TT) (hf : inI f) (hk : inI k) (ha : 0 ≤ a ∧ a ≤ p.ts) (h2 : S2R p.tb p.ts pla k L a f w) (hcj : 0 ≤ cj.2.2.2 ∧ cj.2.2.2 < 120) : Z (l, M_M_pieceRead, R_M_pieceRead, (0, 0), false, zAv (PRM p he fa li sl be ov av bl kw sm pla cj)) 0 0 (eM p he fa li sl be ov av bl kw sm a f w cj) 59 [(0, .ref 0), (1, .int (iI k)), (3, .int (iI L))] [] := by
  have hts := h.2.2.2.2.2.1
  have hlt : ∀ x y, bt p.tb p.ts x = y → 0 ≤ y → x < p.ts := fun x y z zy => by
    unfold bt at z
    split at z
    · assumption
    · omega
  refine Z_iconst 34 rfl ?_
  refine Z_istore 35 rfl (Nat.le_of_ble_eq_true rfl) (lv' := [(4, .int _), (0, .ref _), (1, .int _), (3, .int _)]) rfl ?_
  refine Z_iload_n 36 rfl rfl rfl ?_
  refine Z_if_eq 37 rfl (tgt := 163) rfl (by omega) (fun c63 => ?_) (fun c63 => ?_)
  · refine Z_pick [0, 1, 3, 4] (lv' := [(0, .ref _), (1, .int _), (3, .int _), (4, .int _)]) rfl ?_
    exact lp3_M_pieceRead l p he fa li sl be ov av bl kw sm pla k L 0 a f w cj hf (s3_0 h2 (by omega)) hcj
  · refine Z_aload_n 38 rfl rfl rfl ?_
    refine Z_bipush 39 rfl rfl ?_
    refine Z_callVv (M' := M_M_takes) 40 isM rfl l_M_349 C_M_takes (c_M_takes l p he fa li sl be ov av bl kw sm h 32 a f w cj (by omega) hf (by omega)) (emM ..) (Or.inl ⟨_, _, _, _, rfl, rfl⟩) rfl rfl rfl (Nat.le_of_ble_eq_true rfl) ⟨rfl, rfl, Nat.le_of_ble_eq_true rfl, Nat.le_of_ble_eq_true rfl⟩ ⟨Nat.zero_le _, Nat.zero_le _⟩ (fun out hq => ?_)
    obtain ⟨a1, f1, w1, rfl, hT⟩ := tk_x p he fa li sl be ov av bl kw sm hq -- := hq
    refine Z_mem (mgM ..) ?_
    have hT' := hT
    unfold TKR at hT'
    have hlt1 := hlt a 32
    have ha1 : (0 ≤ a1 ∧ a1 ≤ p.ts) ∧ inI f1 := by rcases hT' with z | z | z <;> omega
    have hbb := bt_bd h.2.2.2.2.1 p.ts a1
    refine Z_aload_n 41 rfl rfl rfl ?_
    refine Z_get 42 rfl f_M_327 rfl rfl ?_
    refine Z_istore_n 43 rfl rfl (Nat.le_of_ble_eq_true rfl) (lv' := [(2, .int _), (4, .int _), (0, .ref _), (1, .int _), (3, .int _)]) rfl ?_
    refine Z_aload_n 44 rfl rfl rfl ?_
    refine Z_get 45 rfl f_M_321 rfl rfl ?_
    refine Z_iconst 46 rfl ?_
    refine Z_icmp_ne 47 rfl (tgt := 102) rfl (by omega) (by omega) (fun c82 => ?_) (fun c82 => ?_)
    · refine Z_iconst 56 rfl ?_
      refine Z_istore 57 rfl (Nat.le_of_ble_eq_true rfl) (lv' := [(5, .int _), (2, .int _), (4, .int _), (0, .ref _), (1, .int _), (3, .int _)]) rfl ?_
      refine Z_iload 58 rfl rfl ?_
      refine Z_if_eq 59 rfl (tgt := 120) rfl (by omega) (fun c107 => ?_) (fun c107 => ?_)
      · refine Z_pick [0, 1, 2, 3, 5] (lv' := [(0, .ref _), (1, .int _), (2, .int _), (3, .int _), (5, .int _)]) rfl ?_
        have hlt2 := hlt a1 45
        first
          | (exfalso; omega)
          | exact lpB_M_pieceRead l p he fa li sl be ov av bl kw sm h pla k L a f w a1 f1 w1 1 (a1 + 1) cj hk (by omega) ha ha1.2 ha1.1 rfl (by omega) h2 hT (by omega) hcj
          | exact lpB_M_pieceRead l p he fa li sl be ov av bl kw sm h pla k L a f w a1 f1 w1 0 a1 cj hk (by omega) ha ha1.2 ha1.1 (by omega) ha1.1 h2 hT (by omega) hcj
      · refine Z_aload_n 60 rfl rfl rfl ?_
        refine Z_dup 61 rfl rfl ?_
        refine Z_get 62 rfl f_M_327 rfl rfl ?_
        refine Z_iconst 63 rfl ?_
        refine Z_iadd 64 rfl ?_
        refine Z_put 65 rfl f_M_327 rfl (Nat.le_of_ble_eq_true rfl) (fun _ => ⟨rfl, rfl⟩) (fs' := []) (mem' := eM p he fa li sl be ov av bl kw sm (a1 + 1) f1 w1 cj) rfl ?_
        refine Z_pick [0, 1, 2, 3, 5] (lv' := [(0, .ref _), (1, .int _), (2, .int _), (3, .int _), (5, .int _)]) rfl ?_
        have hlt2 := hlt a1 45
        first
          | (exfalso; omega)
          | exact lpB_M_pieceRead l p he fa li sl be ov av bl kw sm h pla k L a f w a1 f1 w1 1 (a1 + 1) cj hk (by omega) ha ha1.2 ha1.1 rfl (by omega) h2 hT (by omega) hcj
          | exact lpB_M_pieceRead l p he fa li sl be ov av bl kw sm h pla k L a f w a1 f1 w1 0 a1 cj hk (by omega) ha ha1.2 ha1.1 (by omega) ha1.1 h2 hT (by omega) hcj
    · refine Z_aload_n 48 rfl rfl rfl ?_
      refine Z_aload_n 49 rfl rfl rfl ?_
      refine Z_get 50 rfl f_M_327 rfl rfl ?_
      refine Z_callVip (M' := M_M_byteAt) 51 isM rfl l_M_316 C_M_byteAt (c_M_byteAt l p he fa li sl be ov av bl kw sm h a1 a1 f1 w1 cj (by omega)) (emM ..) (Or.inl ⟨_, _, _, _, rfl, rfl⟩) rfl rfl rfl (Nat.le_of_ble_eq_true rfl) ⟨rfl, rfl, Nat.le_of_ble_eq_true rfl, Nat.le_of_ble_eq_true rfl⟩ ⟨Nat.zero_le _, Nat.zero_le _⟩ ?_
      refine Z_bipush 52 rfl rfl ?_
      refine Z_icmp_ne 53 rfl (tgt := 102) rfl (by omega) (by omega) (fun c95 => ?_) (fun c95 => ?_)
      · refine Z_iconst 56 rfl ?_
        refine Z_istore 57 rfl (Nat.le_of_ble_eq_true rfl) (lv' := [(5, .int _), (2, .int _), (4, .int _), (0, .ref _), (1, .int _), (3, .int _)]) rfl ?_
        refine Z_iload 58 rfl rfl ?_
        refine Z_if_eq 59 rfl (tgt := 120) rfl (by omega) (fun c107 => ?_) (fun c107 => ?_)
        · refine Z_pick [0, 1, 2, 3, 5] (lv' := [(0, .ref _), (1, .int _), (2, .int _), (3, .int _), (5, .int _)]) rfl ?_
          have hlt2 := hlt a1 45
          first
            | (exfalso; omega)
            | exact lpB_M_pieceRead l p he fa li sl be ov av bl kw sm h pla k L a f w a1 f1 w1 1 (a1 + 1) cj hk (by omega) ha ha1.2 ha1.1 rfl (by omega) h2 hT (by omega) hcj
            | exact lpB_M_pieceRead l p he fa li sl be ov av bl kw sm h pla k L a f w a1 f1 w1 0 a1 cj hk (by omega) ha ha1.2 ha1.1 (by omega) ha1.1 h2 hT (by omega) hcj
        · refine Z_aload_n 60 rfl rfl rfl ?_
          refine Z_dup 61 rfl rfl ?_
          refine Z_get 62 rfl f_M_327 rfl rfl ?_
          refine Z_iconst 63 rfl ?_
          refine Z_iadd 64 rfl ?_
          refine Z_put 65 rfl f_M_327 rfl (Nat.le_of_ble_eq_true rfl) (fun _ => ⟨rfl, rfl⟩) (fs' := []) (mem' := eM p he fa li sl be ov av bl kw sm (a1 + 1) f1 w1 cj) rfl ?_
          refine Z_pick [0, 1, 2, 3, 5] (lv' := [(0, .ref _), (1, .int _), (2, .int _), (3, .int _), (5, .int _)]) rfl ?_
          have hlt2 := hlt a1 45
          first
            | (exfalso; omega)
            | exact lpB_M_pieceRead l p he fa li sl be ov av bl kw sm h pla k L a f w a1 f1 w1 1 (a1 + 1) cj hk (by omega) ha ha1.2 ha1.1 rfl (by omega) h2 hT (by omega) hcj
            | exact lpB_M_pieceRead l p he fa li sl be ov av bl kw sm h pla k L a f w a1 f1 w1 0 a1 cj hk (by omega) ha ha1.2 ha1.1 (by omega) ha1.1 h2 hT (by omega) hcj
      · refine Z_iconst 54 rfl ?_
        refine Z_goto 55 rfl (tgt := 103) rfl ?_
        refine Z_istore 57 rfl (Nat.le_of_ble_eq_true rfl) (lv' := [(5, .int _), (2, .int _), (4, .int _), (0, .ref _), (1, .int _), (3, .int _)]) rfl ?_
        refine Z_iload 58 rfl rfl ?_
        refine Z_if_eq 59 rfl (tgt := 120) rfl (by omega) (fun c107 => ?_) (fun c107 => ?_)
        · refine Z_pick [0, 1, 2, 3, 5] (lv' := [(0, .ref _), (1, .int _), (2, .int _), (3, .int _), (5, .int _)]) rfl ?_
          have hlt2 := hlt a1 45
          first
            | (exfalso; omega)
            | exact lpB_M_pieceRead l p he fa li sl be ov av bl kw sm h pla k L a f w a1 f1 w1 1 (a1 + 1) cj hk (by omega) ha ha1.2 ha1.1 rfl (by omega) h2 hT (by omega) hcj
            | exact lpB_M_pieceRead l p he fa li sl be ov av bl kw sm h pla k L a f w a1 f1 w1 0 a1 cj hk (by omega) ha ha1.2 ha1.1 (by omega) ha1.1 h2 hT (by omega) hcj
        · refine Z_aload_n 60 rfl rfl rfl ?_
          refine Z_dup 61 rfl rfl ?_
          refine Z_get 62 rfl f_M_327 rfl rfl ?_
          refine Z_iconst 63 rfl ?_
          refine Z_iadd 64 rfl ?_
          refine Z_put 65 rfl f_M_327 rfl (Nat.le_of_ble_eq_true rfl) (fun _ => ⟨rfl, rfl⟩) (fs' := []) (mem' := eM p he fa li sl be ov av bl kw sm (a1 + 1) f1 w1 cj) rfl ?_
          refine Z_pick [0, 1, 2, 3, 5] (lv' := [(0, .ref _), (1, .int _), (2, .int _), (3, .int _), (5, .int _)]) rfl ?_
          have hlt2 := hlt a1 45
          first
            | (exfalso; omega)
            | exact lpB_M_pieceRead l p he fa li sl be ov av bl kw sm h pla k L a f w a1 f1 w1 1 (a1 + 1) cj hk (by omega) ha ha1.2 ha1.1 rfl (by omega) h2 hT (by omega) hcj
            | exact lpB_M_pieceRead l p he fa li sl be ov av bl kw sm h pla k L a f w a1 f1 w1 0 a1 cj hk (by omega) ha ha1.2 ha1.1 (by omega) ha1.1 h2 hT (by omega) hcj
theorem c_M_pieceRead (h : MV p) (pla mw : Int) (cj : TT) (hp : 0 ≤ pla ∧ pla ≤ p.ts) (hcj : 0 ≤ cj.2.2.2 ∧ cj.2.2.2 < 120) : Con l M_M_pieceRead R_M_pieceRead 0 0 false [.ref 0] (eM p he fa li sl be ov av bl kw sm pla (-1) mw cj) (zAv (PRM p he fa li sl be ov av bl kw sm pla cj)) := by
  have hts := h.2.2.2.2.2.1
  have hkb := kd2_bd p.tb p.ts pla
  have hE := wE_is p.tb hp.2
  have hE1 := hE.1
  have hE2 := IsE_le hE hp.2
  have hlt : ∀ x y, bt p.tb p.ts x = y → 0 ≤ y → x < p.ts := fun x y z zy => by
    unfold bt at z
    split at z
    · assumption
    · omega
  refine Con.of_Z (by decide) D_M_pieceRead (Nat.le_of_ble_eq_true rfl) ?_
  refine Z_aload_n 0 rfl rfl rfl ?_
  refine Z_callVi (M' := M_M_wordRead) 1 isM rfl l_M_346 C_M_wordRead (c_M_wordRead l p he fa li sl be ov av bl kw sm h pla (-1) mw cj (by omega) hp) (emM ..) (Or.inl ⟨_, _, _, _, rfl, rfl⟩) rfl rfl rfl (Nat.le_of_ble_eq_true rfl) ⟨rfl, rfl, Nat.le_of_ble_eq_true rfl, Nat.le_of_ble_eq_true rfl⟩ ⟨Nat.zero_le _, Nat.zero_le _⟩ (fun out hq => ?_)
  obtain ⟨a0, f0, w0, rfl, h0⟩ := wo_x p he fa li sl be ov av bl kw sm hq -- := hq
  refine Z_mem (mgM ..) ?_
  refine Z_istore_n 2 rfl rfl (Nat.le_of_ble_eq_true rfl) (lv' := [(1, .int _), (0, .ref _)]) rfl ?_
  refine Z_aload_n 3 rfl rfl rfl ?_
  refine Z_get 4 rfl f_M_321 rfl rfl ?_
  refine Z_iconst 5 rfl ?_
  refine Z_icmp_eq 6 rfl (tgt := 14) rfl (by omega) (by omega) (fun c10 => ?_) (fun c10 => ?_)
  · obtain ⟨z1, z2, z3, z4⟩ := h0.resolve_left (fun y => by omega)
    rw [z2, z3]
    refine Z_aload_n 8 rfl rfl rfl ?_
    refine Z_bipush 9 rfl rfl ?_
    refine Z_callVv (M' := M_M_takes) 10 isM rfl l_M_349 C_M_takes (c_M_takes l p he fa li sl be ov av bl kw sm h 32 (wE p.tb p.ts pla) (-1) w0 cj (by omega) (by omega) (by omega)) (emM ..) (Or.inl ⟨_, _, _, _, rfl, rfl⟩) rfl rfl rfl (Nat.le_of_ble_eq_true rfl) ⟨rfl, rfl, Nat.le_of_ble_eq_true rfl, Nat.le_of_ble_eq_true rfl⟩ ⟨Nat.zero_le _, Nat.zero_le _⟩ (fun out hq => ?_)
    obtain ⟨a1, f1, w1, rfl, hT⟩ := tk_x p he fa li sl be ov av bl kw sm hq -- := hq
    refine Z_mem (mgM ..) ?_
    have hT' := hT
    unfold TKR at hT'
    have hlt1 := hlt (wE p.tb p.ts pla) 32
    have ha1 : (0 ≤ a1 ∧ a1 ≤ p.ts) ∧ inI f1 := by rcases hT' with z | z | z <;> omega
    have h1 := s1_of rfl (by omega) hT (by omega)
    refine Z_aload_n 11 rfl rfl rfl ?_
    refine Z_get 12 rfl f_M_327 rfl rfl ?_
    refine Z_istore_n 13 rfl rfl (Nat.le_of_ble_eq_true rfl) (lv' := [(2, .int _), (1, .int _), (0, .ref _)]) rfl ?_
    refine Z_aload_n 14 rfl rfl rfl ?_
    refine Z_iconst 15 rfl ?_
    refine Z_iload_n 16 rfl rfl rfl ?_
    refine Z_iconst 17 rfl ?_
    refine Z_callVi (M' := M_M_figures) 18 isM rfl l_M_352 C_M_figures (c_M_figures l p he fa li sl be ov av bl kw sm h 3 3 rfl (by omega) a1 2 a1 f1 w1 cj ha1.2 ha1.1 ha1.1 (by omega)) (emM ..) (Or.inl ⟨_, _, _, _, rfl, rfl⟩) rfl rfl rfl (Nat.le_of_ble_eq_true rfl) ⟨rfl, rfl, Nat.le_of_ble_eq_true rfl, Nat.le_of_ble_eq_true rfl⟩ ⟨Nat.zero_le _, Nat.zero_le _⟩ (fun out hq => ?_)
    obtain ⟨a2, f2, w2, rfl, hF⟩ := hq
    refine Z_mem (mgM ..) ?_
    obtain ⟨L, hL⟩ : ∃ L, L = fgV p.tb p.ts 3 a1 f1 := ⟨_, rfl⟩
    rw [← hL] at hF
    rw [← hL]
    have hrb : (0 ≤ L ∧ L ≤ 999) ∧ inI f2 ∧ (0 ≤ a2 ∧ a2 ≤ p.ts) := by
      have q := fg3_bd p.tb ha1.1.2
      unfold FGR at hF
      refine ⟨?_, by omega, by omega⟩
      rw [hL]
      unfold fgV
      split <;> omega
    refine Z_istore_n 19 rfl rfl (Nat.le_of_ble_eq_true rfl) (lv' := [(3, .int _), (2, .int _), (1, .int _), (0, .ref _)]) rfl ?_
    refine Z_aload_n 20 rfl rfl rfl ?_
    refine Z_get 21 rfl f_M_321 rfl rfl ?_
    refine Z_iconst 22 rfl ?_
    refine Z_icmp_ne 23 rfl (tgt := 59) rfl (by omega) (by omega) (fun c38 => ?_) (fun c38 => ?_)
    · refine Z_pick [0, 1, 3] (lv' := [(0, .ref _), (1, .int _), (3, .int _)]) rfl ?_
      exact lp2_M_pieceRead l p he fa li sl be ov av bl kw sm h pla (kd2 p.tb p.ts pla) L a2 _ _ cj (by omega) (by omega) hrb.2.2 (s2_of h1 hF ha1.1.1 (by omega)) hcj
    · refine Z_iload_n 24 rfl rfl rfl ?_
      refine Z_i2l 25 rfl (by omega) ?_
      refine Z_lconst 26 rfl ?_
      refine Z_ldc2 27 rfl k_M_98 (c := 360) rfl ?_
      refine Z_callSbp (M' := M_M_in) 28 [] rfl l_M_80 C_M_in (c_M_in l _ _ _ (by omega) (by omega) (by omega)) ⟨List.nodup_nil, zEL.n⟩ rfl rfl rfl (Nat.le_of_ble_eq_true rfl) ⟨rfl, rfl, Nat.le_of_ble_eq_true rfl, Nat.le_of_ble_eq_true rfl⟩ ⟨Nat.zero_le _, Nat.zero_le _⟩ ?_
      refine Z_ifb_ne 29 rfl (tgt := 59) rfl (fun c50 => ?_) (fun c50 => ?_)
      · refine Z_pick [0, 1, 3] (lv' := [(0, .ref _), (1, .int _), (3, .int _)]) rfl ?_
        exact lp2_M_pieceRead l p he fa li sl be ov av bl kw sm h pla (kd2 p.tb p.ts pla) L a2 _ _ cj (by omega) (by omega) hrb.2.2 (s2_of h1 hF ha1.1.1 (by omega)) hcj
      · refine Z_aload_n 30 rfl rfl rfl ?_
        refine Z_iload_n 31 rfl rfl rfl ?_
        refine Z_iconst 32 rfl ?_
        refine Z_callVv (M' := M_M_fails) 33 isM rfl l_M_330 C_M_fails (c_M_fails l p he fa li sl be ov av bl kw sm a2 f2 w2 a1 2 cj hrb.2.1) (emM ..) (Or.inl ⟨_, _, _, _, rfl, rfl⟩) rfl rfl rfl (Nat.le_of_ble_eq_true rfl) ⟨rfl, rfl, Nat.le_of_ble_eq_true rfl, Nat.le_of_ble_eq_true rfl⟩ ⟨Nat.zero_le _, Nat.zero_le _⟩ (fun out hq => ?_)
        obtain rfl := hq
        refine Z_mem (mgM ..) ?_
        rw [show flM f2 a1 f2 = a1 by unfold flM; rw [if_pos (by omega)], show flM f2 2 w2 = 2 by unfold flM; rw [if_pos (by omega)]]
        refine Z_pick [0, 1, 3] (lv' := [(0, .ref _), (1, .int _), (3, .int _)]) rfl ?_
        exact lp2_M_pieceRead l p he fa li sl be ov av bl kw sm h pla (kd2 p.tb p.ts pla) L a2 _ _ cj (by omega) (by omega) hrb.2.2 (s2_of h1 hF ha1.1.1 (by omega)) hcj
  · refine Z_vret 7 rfl rfl ⟨Nat.le_refl _, Nat.le_refl _⟩ ?_
    rcases h0 with ⟨z1, z2, z3, z4⟩ | ⟨z1, z2, z3, z4⟩
    · have e : PR p.tb p.ts pla = fl p.ts pla 1 := by unfold PR; rw [if_pos z1]
      exact ⟨rfl, Or.inr ⟨by rw [e]; rfl, by rw [e]; exact (show pla ≠ -1 by omega), a0, by rw [e, z3, z4]; rfl⟩⟩
    · exact absurd z3 (by omega)
end M13
