/-! the model: what is told of an angle, joins -/
theorem mp_x {t : TT} (h : TV t) {a sd k u : Int} (hA : At t a sd k u) : ∃ c, 1 ≤ c ∧ mpL t k u = c * lf (pl t k u) ∧ mpS t k u = c * (pl t k u).2.2.1 ∧ mpB t k u = c * (pl t k u).2.2.2.1 ∧ mpO t k = c * (pl t k u).1 := mp_e h ⟨(At_in h hA).1.1, (At_in h hA).1.2.1⟩
section M3
variable (l : Launch) (p : MP) (he fa li sl be ov av bl : Int) (kw sm : Int → Int) (ma mf mw : Int) (cj : TT)
/-- behind a look -/
def LM : List zE → Prop := fun m => ∃ he' fa' li' sl' be' ov', m = eM p he' fa' li' sl' be' ov' av bl kw sm ma mf mw cj
theorem c_M_at (h : MV p) (a sd what part : Int) (ha : inI a) (hs : inI sd) (hw : inI what) (hp : inI part) : Con l M_M_at R_M_at 0 0 false [.ref 0, .int (iI a), .int (iI sd), .int (iI what), .int (iI part)] (eM p he fa li sl be ov av bl kw sm ma mf mw cj) (zAl (atF p.t a sd what part) (LM p av bl kw sm ma mf mw cj)) := by
  refine Con.of_Z (by decide) D_M_at (Nat.le_of_ble_eq_true rfl) ?_
  refine Z_iload_n 0 rfl rfl rfl ?_
  refine Z_i2l 1 rfl (by omega) ?_
  refine Z_lconst 2 rfl ?_
  refine Z_ldc2 3 rfl k_M_108 (c := 2) rfl ?_
  refine Z_callSbp (M' := M_M_in) 4 [] rfl l_M_80 C_M_in (c_M_in l _ _ _ (by omega) (by omega) (by omega)) ⟨List.nodup_nil, zEL.n⟩ rfl rfl rfl (Nat.le_of_ble_eq_true rfl) ⟨rfl, rfl, Nat.le_of_ble_eq_true rfl, Nat.le_of_ble_eq_true rfl⟩ ⟨Nat.zero_le _, Nat.zero_le _⟩ ?_
  refine Z_ifb_eq 5 rfl (tgt := 32) rfl (fun c9 => ?_) (fun c9 => ?_)
  · refine Z_ldc2 17 rfl k_M_205 (c := -9223372036854775808) rfl ?_
    refine Z_lret 18 rfl rfl ⟨Nat.le_refl _, Nat.le_refl _⟩ ?_
    exact ⟨by unfold atF; (repeat (first | rw [cif_t (by first | assumption | omega)] | rw [cif_f (by first | assumption | omega)])); first | rfl | (rw [atV_f (by assumption)]; rfl), _, _, _, _, _, _, rfl⟩
  · refine Z_iload 6 rfl rfl ?_
    refine Z_i2l 7 rfl (by omega) ?_
    refine Z_lconst 8 rfl ?_
    refine Z_lconst 9 rfl ?_
    refine Z_callSbp (M' := M_M_in) 10 [] rfl l_M_80 C_M_in (c_M_in l _ _ _ (by omega) (by omega) (by omega)) ⟨List.nodup_nil, zEL.n⟩ rfl rfl rfl (Nat.le_of_ble_eq_true rfl) ⟨rfl, rfl, Nat.le_of_ble_eq_true rfl, Nat.le_of_ble_eq_true rfl⟩ ⟨Nat.zero_le _, Nat.zero_le _⟩ ?_
    refine Z_ifb_eq 11 rfl (tgt := 32) rfl (fun c20 => ?_) (fun c20 => ?_)
    · refine Z_ldc2 17 rfl k_M_205 (c := -9223372036854775808) rfl ?_
      refine Z_lret 18 rfl rfl ⟨Nat.le_refl _, Nat.le_refl _⟩ ?_
      exact ⟨by unfold atF; (repeat (first | rw [cif_t (by first | assumption | omega)] | rw [cif_f (by first | assumption | omega)])); first | rfl | (rw [atV_f (by assumption)]; rfl), _, _, _, _, _, _, rfl⟩
    · refine Z_aload_n 12 rfl rfl rfl ?_
      refine Z_iload_n 13 rfl rfl rfl ?_
      refine Z_iload_n 14 rfl rfl rfl ?_
      refine Z_callVb (M' := M_M_looks) 15 isM rfl l_M_202 C_M_looks (c_M_looks l p he fa li sl be ov av bl kw sm ma mf mw cj h a sd ha hs) (emM ..) (Or.inl ⟨_, _, _, _, rfl, rfl⟩) rfl rfl rfl (Nat.le_of_ble_eq_true rfl) ⟨rfl, rfl, Nat.le_of_ble_eq_true rfl, Nat.le_of_ble_eq_true rfl⟩ ⟨Nat.zero_le _, Nat.zero_le _⟩ (fun out hq => ?_)
      obtain ⟨he', fa', li', sl', be', ov', rfl, hL⟩ := hq
      refine Z_mem (mgM ..) ?_
      refine Z_ifb_ne 16 rfl (tgt := 36) rfl (fun c29 => ?_) (fun c29 => ?_)
      · obtain ⟨kk, uu, hA⟩ := c29
        obtain ⟨e1, e2, e3, e4, e5, e6⟩ := hL kk uu hA
        rw [e1, e2, e3, e4, e5, e6]
        have hI := At_in h.1 hA
        have hb := mp_bd h.1 ⟨hI.1.1, hI.1.2.1⟩ hI.2.1
        obtain ⟨cc, k0, k1, k2, k3, k4⟩ := mp_x h.1 hA
        have hbd := pl_bd h.1 ⟨hI.1.1, hI.1.2.1⟩ hI.2.1
        have hb1 := hbd.1
        have hv : inL (cc * whV what (pl p.t kk uu)) ∧ cc * whV what (pl p.t kk uu) ≠ -9223372036854775808 := by unfold whV; (repeat' split) <;> omega
        refine Z_iload_n 19 rfl rfl rfl ?_
        refine Z_if_ne 20 rfl (tgt := 47) rfl (by omega) (fun c37 => ?_) (fun c37 => ?_)
        · refine Z_iload_n 24 rfl rfl rfl ?_
          refine Z_iconst 25 rfl ?_
          refine Z_icmp_ne 26 rfl (tgt := 59) rfl (by omega) (by omega) (fun c49 => ?_) (fun c49 => ?_)
          · refine Z_aload_n 30 rfl rfl rfl ?_
            refine Z_get 31 rfl f_M_199 rfl rfl ?_
            refine Z_cl (show _ = cc * whV what (pl p.t kk uu) by unfold whV; first | (rw [if_pos (by omega)]; exact k1) | (rw [if_neg (by omega), if_pos (by omega)]; exact k2) | (rw [if_neg (by omega), if_neg (by omega)]; exact k3)) ?_
            refine Z_aload_n 32 rfl rfl rfl ?_
            refine Z_get 33 rfl f_M_179 rfl rfl ?_
            refine Z_cl k4 ?_
            refine Z_iload 34 rfl rfl ?_
            refine Z_callSlp (M' := M_M_lowest) 35 [] rfl l_M_207 C_M_lowest (c_M_lowest l (cc * whV what (pl p.t kk uu)) (cc * (pl p.t kk uu).1) part hv (by omega) hp) ⟨List.nodup_nil, zEL.n⟩ rfl rfl rfl (Nat.le_of_ble_eq_true rfl) ⟨rfl, rfl, Nat.le_of_ble_eq_true rfl, Nat.le_of_ble_eq_true rfl⟩ ⟨Nat.zero_le _, Nat.zero_le _⟩ ?_
            refine Z_lret 36 rfl rfl ⟨Nat.le_refl _, Nat.le_refl _⟩ ?_
            exact ⟨by unfold atF; (repeat (first | rw [cif_t (by first | assumption | omega)] | rw [cif_f (by first | assumption | omega)])); rw [atV_t h.1 hA, lo_mul _ _ _ (by omega)], _, _, _, _, _, _, rfl⟩
          · refine Z_aload_n 27 rfl rfl rfl ?_
            refine Z_get 28 rfl f_M_193 rfl rfl ?_
            refine Z_goto 29 rfl (tgt := 63) rfl ?_
            refine Z_cl (show _ = cc * whV what (pl p.t kk uu) by unfold whV; first | (rw [if_pos (by omega)]; exact k1) | (rw [if_neg (by omega), if_pos (by omega)]; exact k2) | (rw [if_neg (by omega), if_neg (by omega)]; exact k3)) ?_
            refine Z_aload_n 32 rfl rfl rfl ?_
            refine Z_get 33 rfl f_M_179 rfl rfl ?_
            refine Z_cl k4 ?_
            refine Z_iload 34 rfl rfl ?_
            refine Z_callSlp (M' := M_M_lowest) 35 [] rfl l_M_207 C_M_lowest (c_M_lowest l (cc * whV what (pl p.t kk uu)) (cc * (pl p.t kk uu).1) part hv (by omega) hp) ⟨List.nodup_nil, zEL.n⟩ rfl rfl rfl (Nat.le_of_ble_eq_true rfl) ⟨rfl, rfl, Nat.le_of_ble_eq_true rfl, Nat.le_of_ble_eq_true rfl⟩ ⟨Nat.zero_le _, Nat.zero_le _⟩ ?_
            refine Z_lret 36 rfl rfl ⟨Nat.le_refl _, Nat.le_refl _⟩ ?_
            exact ⟨by unfold atF; (repeat (first | rw [cif_t (by first | assumption | omega)] | rw [cif_f (by first | assumption | omega)])); rw [atV_t h.1 hA, lo_mul _ _ _ (by omega)], _, _, _, _, _, _, rfl⟩
        · refine Z_aload_n 21 rfl rfl rfl ?_
          refine Z_get 22 rfl f_M_187 rfl rfl ?_
          refine Z_goto 23 rfl (tgt := 63) rfl ?_
          refine Z_cl (show _ = cc * whV what (pl p.t kk uu) by unfold whV; first | (rw [if_pos (by omega)]; exact k1) | (rw [if_neg (by omega), if_pos (by omega)]; exact k2) | (rw [if_neg (by omega), if_neg (by omega)]; exact k3)) ?_
          refine Z_aload_n 32 rfl rfl rfl ?_
          refine Z_get 33 rfl f_M_179 rfl rfl ?_
          refine Z_cl k4 ?_
          refine Z_iload 34 rfl rfl ?_
          refine Z_callSlp (M' := M_M_lowest) 35 [] rfl l_M_207 C_M_lowest (c_M_lowest l (cc * whV what (pl p.t kk uu)) (cc * (pl p.t kk uu).1) part hv (by omega) hp) ⟨List.nodup_nil, zEL.n⟩ rfl rfl rfl (Nat.le_of_ble_eq_true rfl) ⟨rfl, rfl, Nat.le_of_ble_eq_true rfl, Nat.le_of_ble_eq_true rfl⟩ ⟨Nat.zero_le _, Nat.zero_le _⟩ ?_
          refine Z_lret 36 rfl rfl ⟨Nat.le_refl _, Nat.le_refl _⟩ ?_
          exact ⟨by unfold atF; (repeat (first | rw [cif_t (by first | assumption | omega)] | rw [cif_f (by first | assumption | omega)])); rw [atV_t h.1 hA, lo_mul _ _ _ (by omega)], _, _, _, _, _, _, rfl⟩
      · refine Z_ldc2 17 rfl k_M_205 (c := -9223372036854775808) rfl ?_
        refine Z_lret 18 rfl rfl ⟨Nat.le_refl _, Nat.le_refl _⟩ ?_
        exact ⟨by unfold atF; (repeat (first | rw [cif_t (by first | assumption | omega)] | rw [cif_f (by first | assumption | omega)])); first | rfl | (rw [atV_f (by assumption)]; rfl), _, _, _, _, _, _, rfl⟩
theorem c_M_curveNow (h : SB p.s) : Con l M_M_curveNow R_M_curveNow 0 0 false [.ref 0] (eM p he fa li sl be ov av bl kw sm ma mf mw cj) (zAl (p.s 0 * ov + li + 3249 * be) (fun m => m = eM p he fa li sl be ov av bl kw sm ma mf mw cj)) := by
  have hs := SB_i h (i := 0) (by omega)
  refine Con.of_Z (by decide) D_M_curveNow (Nat.le_of_ble_eq_true rfl) ?_
  refine Z_aload_n 0 rfl rfl rfl ?_
  refine Z_get 1 rfl f_M_21 rfl rfl ?_
  refine Z_iconst 2 rfl ?_
  refine Z_ia 3 rfl rfl (by omega) (by decide) ?_
  refine Z_i2l 4 rfl (by omega) ?_
  refine Z_aload_n 5 rfl rfl rfl ?_
  refine Z_get 6 rfl f_M_179 rfl rfl ?_
  refine Z_lmul 7 rfl ?_
  refine Z_aload_n 8 rfl rfl rfl ?_
  refine Z_get 9 rfl f_M_187 rfl rfl ?_
  refine Z_ladd 10 rfl ?_
  refine Z_ldc2 11 rfl k_M_233 (c := 3249) rfl ?_
  refine Z_aload_n 12 rfl rfl rfl ?_
  refine Z_get 13 rfl f_M_199 rfl rfl ?_
  refine Z_lmul 14 rfl ?_
  refine Z_ladd 15 rfl ?_
  refine Z_lret 16 rfl rfl ⟨Nat.le_refl _, Nat.le_refl _⟩ ?_
  exact ⟨rfl, rfl⟩
theorem c_M_forceNow (h : SB p.s) (st sp : Int) (h1 : inI st) (h2 : inI sp) : Con l M_M_forceNow R_M_forceNow 0 0 false [.ref 0, .int (iI st), .int (iI sp)] (eM p he fa li sl be ov av bl kw sm ma mf mw cj) (zAl (p.s 3 * ov + st * li + 3249 * p.s 1 * sp * sp * be) (fun m => m = eM p he fa li sl be ov av bl kw sm ma mf mw cj)) := by
  have hs := SB_i h (i := 3) (by omega)
  have hs1 := SB_i h (i := 1) (by omega)
  refine Con.of_Z (by decide) D_M_forceNow (Nat.le_of_ble_eq_true rfl) ?_
  refine Z_aload_n 0 rfl rfl rfl ?_
  refine Z_get 1 rfl f_M_21 rfl rfl ?_
  refine Z_iconst 2 rfl ?_
  refine Z_ia 3 rfl rfl (by omega) (by decide) ?_
  refine Z_i2l 4 rfl (by omega) ?_
  refine Z_aload_n 5 rfl rfl rfl ?_
  refine Z_get 6 rfl f_M_179 rfl rfl ?_
  refine Z_lmul 7 rfl ?_
  refine Z_iload_n 8 rfl rfl rfl ?_
  refine Z_i2l 9 rfl (by omega) ?_
  refine Z_aload_n 10 rfl rfl rfl ?_
  refine Z_get 11 rfl f_M_187 rfl rfl ?_
  refine Z_lmul 12 rfl ?_
  refine Z_ladd 13 rfl ?_
  refine Z_ldc2 14 rfl k_M_233 (c := 3249) rfl ?_
  refine Z_aload_n 15 rfl rfl rfl ?_
  refine Z_get 16 rfl f_M_21 rfl rfl ?_
  refine Z_iconst 17 rfl ?_
  refine Z_ia 18 rfl rfl (by omega) (by decide) ?_
  refine Z_i2l 19 rfl (by omega) ?_
  refine Z_lmul 20 rfl ?_
  refine Z_iload_n 21 rfl rfl rfl ?_
  refine Z_i2l 22 rfl (by omega) ?_
  refine Z_lmul 23 rfl ?_
  refine Z_iload_n 24 rfl rfl rfl ?_
  refine Z_i2l 25 rfl (by omega) ?_
  refine Z_lmul 26 rfl ?_
  refine Z_aload_n 27 rfl rfl rfl ?_
  refine Z_get 28 rfl f_M_199 rfl rfl ?_
  refine Z_lmul 29 rfl ?_
  refine Z_ladd 30 rfl ?_
  refine Z_lret 31 rfl rfl ⟨Nat.le_refl _, Nat.le_refl _⟩ ?_
  exact ⟨rfl, rfl⟩
/-- the numbers, so many times -/
theorem cu_c {S : Int → Int} {s : SS} {c L B O : Int} (h1 : L = c * lf s) (h3 : B = c * s.2.2.2.1) (h4 : O = c * s.1) : S 0 * O + L + 3249 * B = c * cur S s ∧ S 0 * O + L = c * rch S s := by
  rw [h1, h3, h4]
  unfold cur rch
  constructor <;> grind
theorem fo_c {S : Int → Int} {s : SS} {c L B O : Int} (st sp : Int) (h1 : L = c * lf s) (h3 : B = c * s.2.2.2.1) (h4 : O = c * s.1) : S 3 * O + st * L + 3249 * S 1 * sp * sp * B = c * (S 3 * s.1 + st * lf s + 3249 * S 1 * sp * sp * s.2.2.2.1) := by
  rw [h1, h3, h4]
  grind
theorem fo_f (S : Int → Int) (s : SS) : S 3 * s.1 + S 2 * lf s + 3249 * S 1 * S 4 * S 4 * s.2.2.2.1 = frc S s := by
  unfold frc prl spr ine
  grind
theorem cs_bd {S : Int → Int} (hS : SB S) {c : Int} {L B O : Int} (hL : -7781996851200000 ≤ L ∧ L ≤ 7781996851200000) (hB : -69284160000 ≤ B ∧ B ≤ 69284160000) (hO : 1 ≤ O ∧ O ≤ 6046617600000) : (-8100000000000000 ≤ S 0 * O + L + 3249 * B ∧ S 0 * O + L + 3249 * B ≤ 14050000000000000) ∧ (-8000000000000000 ≤ S 0 * O + L ∧ S 0 * O + L ≤ 13822567833600000) := by
  unfold SB at hS
  have a0 := mul_bd (x := S 0) (y := O) (A := 999) (B := 6046617600000) (by omega) (by omega)
  omega
theorem fs_bd {S : Int → Int} (hS : SB S) {L B O st sp : Int} (hL : -7781996851200000 ≤ L ∧ L ≤ 7781996851200000) (hB : -69284160000 ≤ B ∧ B ≤ 69284160000) (hO : 1 ≤ O ∧ O ≤ 6046617600000) (h1 : 0 ≤ st ∧ st ≤ 99) (h2 : 0 ≤ sp ∧ sp ≤ 30) : -4900000000000000000 ≤ S 3 * O + st * L + 3249 * S 1 * sp * sp * B ∧ S 3 * O + st * L + 3249 * S 1 * sp * sp * B ≤ 4900000000000000000 := by
  unfold SB at hS
  have a3 := mul_bd (x := S 3) (y := O) (A := 9999) (B := 6046617600000) (by omega) (by omega)
  have a2 := mul_ab (x := st) (y := L) (A := 99) (B := 7781996851200000) (by omega) hL
  have a5 := mul_ab (x := 3249 * S 1) (y := sp) (A := 64980) (B := 30) (by omega) (by omega)
  have a6 := mul_ab (x := 3249 * S 1 * sp) (y := sp) (A := 1949400) (B := 30) (by omega) (by omega)
  have a7 := mul_ab (x := 3249 * S 1 * sp * sp) (y := B) (A := 58482000) (B := 69284160000) (by omega) hB
  omega
theorem c_M_curve (h : MV p) (a sd part : Int) (ha : inI a) (hs : inI sd) (hp : inI part) : Con l M_M_curve R_M_curve 0 0 false [.ref 0, .int (iI a), .int (iI sd), .int (iI part)] (eM p he fa li sl be ov av bl kw sm ma mf mw cj) (zAl (curveF p.t p.s a sd part) (LM p av bl kw sm ma mf mw cj)) := by
  refine Con.of_Z (by decide) D_M_curve (Nat.le_of_ble_eq_true rfl) ?_
  refine Z_iload_n 0 rfl rfl rfl ?_
  refine Z_i2l 1 rfl (by omega) ?_
  refine Z_lconst 2 rfl ?_
  refine Z_lconst 3 rfl ?_
  refine Z_callSbp (M' := M_M_in) 4 [] rfl l_M_80 C_M_in (c_M_in l _ _ _ (by omega) (by omega) (by omega)) ⟨List.nodup_nil, zEL.n⟩ rfl rfl rfl (Nat.le_of_ble_eq_true rfl) ⟨rfl, rfl, Nat.le_of_ble_eq_true rfl, Nat.le_of_ble_eq_true rfl⟩ ⟨Nat.zero_le _, Nat.zero_le _⟩ ?_
  refine Z_ifb_eq 5 rfl (tgt := 34) rfl (fun c7 => ?_) (fun c7 => ?_)
  · refine Z_ldc2 18 rfl k_M_205 (c := -9223372036854775808) rfl ?_
    refine Z_lret 19 rfl rfl ⟨Nat.le_refl _, Nat.le_refl _⟩ ?_
    exact ⟨by unfold curveF; (repeat (first | rw [cif_t (by first | assumption | omega)] | rw [cif_f (by first | assumption | omega)])); first | rfl | (rw [atV_f (by assumption)]; rfl) | (rw [atV_t h.1 hA, lo_mul _ _ _ (by omega)]), _, _, _, _, _, _, rfl⟩
  · refine Z_aload_n 6 rfl rfl rfl ?_
    refine Z_iload_n 7 rfl rfl rfl ?_
    refine Z_iload_n 8 rfl rfl rfl ?_
    refine Z_callVb (M' := M_M_looks) 9 isM rfl l_M_202 C_M_looks (c_M_looks l p he fa li sl be ov av bl kw sm ma mf mw cj h a sd ha hs) (emM ..) (Or.inl ⟨_, _, _, _, rfl, rfl⟩) rfl rfl rfl (Nat.le_of_ble_eq_true rfl) ⟨rfl, rfl, Nat.le_of_ble_eq_true rfl, Nat.le_of_ble_eq_true rfl⟩ ⟨Nat.zero_le _, Nat.zero_le _⟩ (fun out hq => ?_)
    obtain ⟨he', fa', li', sl', be', ov', rfl, hL⟩ := hq
    refine Z_mem (mgM ..) ?_
    refine Z_ifb_eq 10 rfl (tgt := 34) rfl (fun c16 => ?_) (fun c16 => ?_)
    · refine Z_ldc2 18 rfl k_M_205 (c := -9223372036854775808) rfl ?_
      refine Z_lret 19 rfl rfl ⟨Nat.le_refl _, Nat.le_refl _⟩ ?_
      exact ⟨by unfold curveF; (repeat (first | rw [cif_t (by first | assumption | omega)] | rw [cif_f (by first | assumption | omega)])); first | rfl | (rw [atV_f (by assumption)]; rfl) | (rw [atV_t h.1 hA, lo_mul _ _ _ (by omega)]), _, _, _, _, _, _, rfl⟩
    · obtain ⟨kk, uu, hA⟩ := c16
      obtain ⟨e1, e2, e3, e4, e5, e6⟩ := hL kk uu hA
      rw [e1, e2, e3, e4, e5, e6]
      have hI := At_in h.1 hA
      have hb := mp_bd h.1 ⟨hI.1.1, hI.1.2.1⟩ hI.2.1
      obtain ⟨cc, k0, k1, k2, k3, k4⟩ := mp_x h.1 hA
      have hb1 := (pl_bd h.1 ⟨hI.1.1, hI.1.2.1⟩ hI.2.1).1
      have hc := cs_bd h.2.1 (c := 0) hb.1 hb.2.2.1 hb.2.2.2
      have ec := (cu_c (S := p.s) k1 k3 k4).1
      refine Z_aload_n 11 rfl rfl rfl ?_
      refine Z_callVlp (M' := M_M_curveNow) 12 isM rfl l_M_235 C_M_curveNow (c_M_curveNow l p kk uu (mpL p.t kk uu) (mpS p.t kk uu) (mpB p.t kk uu) (mpO p.t kk) av bl kw sm ma mf mw cj h.2.1) (emM ..) (Or.inl ⟨_, _, _, _, rfl, rfl⟩) rfl rfl rfl (Nat.le_of_ble_eq_true rfl) ⟨rfl, rfl, Nat.le_of_ble_eq_true rfl, Nat.le_of_ble_eq_true rfl⟩ ⟨Nat.zero_le _, Nat.zero_le _⟩ ?_
      refine Z_cl ec ?_
      refine Z_aload_n 13 rfl rfl rfl ?_
      refine Z_get 14 rfl f_M_179 rfl rfl ?_
      refine Z_cl k4 ?_
      refine Z_iload_n 15 rfl rfl rfl ?_
      refine Z_callSlp (M' := M_M_lowest) 16 [] rfl l_M_207 C_M_lowest (c_M_lowest l (cc * cur p.s (pl p.t kk uu)) (cc * (pl p.t kk uu).1) part (by omega) (by omega) hp) ⟨List.nodup_nil, zEL.n⟩ rfl rfl rfl (Nat.le_of_ble_eq_true rfl) ⟨rfl, rfl, Nat.le_of_ble_eq_true rfl, Nat.le_of_ble_eq_true rfl⟩ ⟨Nat.zero_le _, Nat.zero_le _⟩ ?_
      refine Z_goto 17 rfl (tgt := 37) rfl ?_
      refine Z_lret 19 rfl rfl ⟨Nat.le_refl _, Nat.le_refl _⟩ ?_
      exact ⟨by unfold curveF; (repeat (first | rw [cif_t (by first | assumption | omega)] | rw [cif_f (by first | assumption | omega)])); first | rfl | (rw [atV_f (by assumption)]; rfl) | (rw [atV_t h.1 hA, lo_mul _ _ _ (by omega)]), _, _, _, _, _, _, rfl⟩
theorem c_M_force (h : MV p) (a sd part : Int) (ha : inI a) (hs : inI sd) (hp : inI part) : Con l M_M_force R_M_force 0 0 false [.ref 0, .int (iI a), .int (iI sd), .int (iI part)] (eM p he fa li sl be ov av bl kw sm ma mf mw cj) (zAl (forceF p.t p.s a sd part) (LM p av bl kw sm ma mf mw cj)) := by
  have hS := h.2.1
  unfold SB at hS
  refine Con.of_Z (by decide) D_M_force (Nat.le_of_ble_eq_true rfl) ?_
  refine Z_iload_n 0 rfl rfl rfl ?_
  refine Z_i2l 1 rfl (by omega) ?_
  refine Z_lconst 2 rfl ?_
  refine Z_lconst 3 rfl ?_
  refine Z_callSbp (M' := M_M_in) 4 [] rfl l_M_80 C_M_in (c_M_in l _ _ _ (by omega) (by omega) (by omega)) ⟨List.nodup_nil, zEL.n⟩ rfl rfl rfl (Nat.le_of_ble_eq_true rfl) ⟨rfl, rfl, Nat.le_of_ble_eq_true rfl, Nat.le_of_ble_eq_true rfl⟩ ⟨Nat.zero_le _, Nat.zero_le _⟩ ?_
  refine Z_ifb_eq 5 rfl (tgt := 46) rfl (fun c7 => ?_) (fun c7 => ?_)
  · refine Z_ldc2 26 rfl k_M_205 (c := -9223372036854775808) rfl ?_
    refine Z_lret 27 rfl rfl ⟨Nat.le_refl _, Nat.le_refl _⟩ ?_
    exact ⟨by unfold forceF; (repeat (first | rw [cif_t (by first | assumption | omega)] | rw [cif_f (by first | assumption | omega)])); first | rfl | (rw [atV_f (by assumption)]; rfl) | (rw [atV_t h.1 hA, lo_mul _ _ _ (by omega)]), _, _, _, _, _, _, rfl⟩
  · refine Z_aload_n 6 rfl rfl rfl ?_
    refine Z_iload_n 7 rfl rfl rfl ?_
    refine Z_iload_n 8 rfl rfl rfl ?_
    refine Z_callVb (M' := M_M_looks) 9 isM rfl l_M_202 C_M_looks (c_M_looks l p he fa li sl be ov av bl kw sm ma mf mw cj h a sd ha hs) (emM ..) (Or.inl ⟨_, _, _, _, rfl, rfl⟩) rfl rfl rfl (Nat.le_of_ble_eq_true rfl) ⟨rfl, rfl, Nat.le_of_ble_eq_true rfl, Nat.le_of_ble_eq_true rfl⟩ ⟨Nat.zero_le _, Nat.zero_le _⟩ (fun out hq => ?_)
    obtain ⟨he', fa', li', sl', be', ov', rfl, hL⟩ := hq
    refine Z_mem (mgM ..) ?_
    refine Z_ifb_eq 10 rfl (tgt := 46) rfl (fun c16 => ?_) (fun c16 => ?_)
    · refine Z_ldc2 26 rfl k_M_205 (c := -9223372036854775808) rfl ?_
      refine Z_lret 27 rfl rfl ⟨Nat.le_refl _, Nat.le_refl _⟩ ?_
      exact ⟨by unfold forceF; (repeat (first | rw [cif_t (by first | assumption | omega)] | rw [cif_f (by first | assumption | omega)])); first | rfl | (rw [atV_f (by assumption)]; rfl) | (rw [atV_t h.1 hA, lo_mul _ _ _ (by omega)]), _, _, _, _, _, _, rfl⟩
    · obtain ⟨kk, uu, hA⟩ := c16
      obtain ⟨e1, e2, e3, e4, e5, e6⟩ := hL kk uu hA
      rw [e1, e2, e3, e4, e5, e6]
      have hI := At_in h.1 hA
      have hb := mp_bd h.1 ⟨hI.1.1, hI.1.2.1⟩ hI.2.1
      obtain ⟨cc, k0, k1, k2, k3, k4⟩ := mp_x h.1 hA
      have hb1 := (pl_bd h.1 ⟨hI.1.1, hI.1.2.1⟩ hI.2.1).1
      have hc := fs_bd h.2.1 hb.1 hb.2.2.1 hb.2.2.2 (st := p.s 2) (sp := p.s 4) (by omega) (by omega)
      have ec := fo_c (S := p.s) (p.s 2) (p.s 4) k1 k3 k4
      rw [fo_f] at ec
      refine Z_aload_n 11 rfl rfl rfl ?_
      refine Z_aload_n 12 rfl rfl rfl ?_
      refine Z_get 13 rfl f_M_21 rfl rfl ?_
      refine Z_iconst 14 rfl ?_
      refine Z_ia 15 rfl rfl (by omega) (by decide) ?_
      refine Z_aload_n 16 rfl rfl rfl ?_
      refine Z_get 17 rfl f_M_21 rfl rfl ?_
      refine Z_iconst 18 rfl ?_
      refine Z_ia 19 rfl rfl (by omega) (by decide) ?_
      refine Z_callVlp (M' := M_M_forceNow) 20 isM rfl l_M_241 C_M_forceNow (c_M_forceNow l p kk uu (mpL p.t kk uu) (mpS p.t kk uu) (mpB p.t kk uu) (mpO p.t kk) av bl kw sm ma mf mw cj h.2.1 (p.s 2) (p.s 4) (by omega) (by omega)) (emM ..) (Or.inl ⟨_, _, _, _, rfl, rfl⟩) rfl rfl rfl (Nat.le_of_ble_eq_true rfl) ⟨rfl, rfl, Nat.le_of_ble_eq_true rfl, Nat.le_of_ble_eq_true rfl⟩ ⟨Nat.zero_le _, Nat.zero_le _⟩ ?_
      refine Z_cl ec ?_
      refine Z_aload_n 21 rfl rfl rfl ?_
      refine Z_get 22 rfl f_M_179 rfl rfl ?_
      refine Z_cl k4 ?_
      refine Z_iload_n 23 rfl rfl rfl ?_
      refine Z_callSlp (M' := M_M_lowest) 24 [] rfl l_M_207 C_M_lowest (c_M_lowest l (cc * frc p.s (pl p.t kk uu)) (cc * (pl p.t kk uu).1) part (by omega) (by omega) hp) ⟨List.nodup_nil, zEL.n⟩ rfl rfl rfl (Nat.le_of_ble_eq_true rfl) ⟨rfl, rfl, Nat.le_of_ble_eq_true rfl, Nat.le_of_ble_eq_true rfl⟩ ⟨Nat.zero_le _, Nat.zero_le _⟩ ?_
      refine Z_goto 25 rfl (tgt := 49) rfl ?_
      refine Z_lret 27 rfl rfl ⟨Nat.le_refl _, Nat.le_refl _⟩ ?_
      exact ⟨by unfold forceF; (repeat (first | rw [cif_t (by first | assumption | omega)] | rw [cif_f (by first | assumption | omega)])); first | rfl | (rw [atV_f (by assumption)]; rfl) | (rw [atV_t h.1 hA, lo_mul _ _ _ (by omega)]), _, _, _, _, _, _, rfl⟩
theorem c_M_pressure (h : MV p) (a sd part : Int) (ha : inI a) (hs : inI sd) (hp : inI part) : Con l M_M_pressure R_M_pressure 0 0 false [.ref 0, .int (iI a), .int (iI sd), .int (iI part)] (eM p he fa li sl be ov av bl kw sm ma mf mw cj) (zAl (pressF p.t p.s a sd part) (LM p av bl kw sm ma mf mw cj)) := by
  have hS := h.2.1
  unfold SB at hS
  refine Con.of_Z (by decide) D_M_pressure (Nat.le_of_ble_eq_true rfl) ?_
  refine Z_iload_n 0 rfl rfl rfl ?_
  refine Z_i2l 1 rfl (by omega) ?_
  refine Z_lconst 2 rfl ?_
  refine Z_lconst 3 rfl ?_
  refine Z_callSbp (M' := M_M_in) 4 [] rfl l_M_80 C_M_in (c_M_in l _ _ _ (by omega) (by omega) (by omega)) ⟨List.nodup_nil, zEL.n⟩ rfl rfl rfl (Nat.le_of_ble_eq_true rfl) ⟨rfl, rfl, Nat.le_of_ble_eq_true rfl, Nat.le_of_ble_eq_true rfl⟩ ⟨Nat.zero_le _, Nat.zero_le _⟩ ?_
  refine Z_ifb_eq 5 rfl (tgt := 19) rfl (fun c7 => ?_) (fun c7 => ?_)
  · refine Z_ldc2 11 rfl k_M_205 (c := -9223372036854775808) rfl ?_
    refine Z_lret 12 rfl rfl ⟨Nat.le_refl _, Nat.le_refl _⟩ ?_
    exact ⟨by unfold pressF; (repeat (first | rw [cif_t (by first | assumption | omega)] | rw [cif_f (by first | assumption | omega)])); first | rfl | (rw [atV_f (by assumption)]; rfl), _, _, _, _, _, _, rfl⟩
  · refine Z_aload_n 6 rfl rfl rfl ?_
    refine Z_iload_n 7 rfl rfl rfl ?_
    refine Z_iload_n 8 rfl rfl rfl ?_
    refine Z_callVb (M' := M_M_looks) 9 isM rfl l_M_202 C_M_looks (c_M_looks l p he fa li sl be ov av bl kw sm ma mf mw cj h a sd ha hs) (emM ..) (Or.inl ⟨_, _, _, _, rfl, rfl⟩) rfl rfl rfl (Nat.le_of_ble_eq_true rfl) ⟨rfl, rfl, Nat.le_of_ble_eq_true rfl, Nat.le_of_ble_eq_true rfl⟩ ⟨Nat.zero_le _, Nat.zero_le _⟩ (fun out hq => ?_)
    obtain ⟨he', fa', li', sl', be', ov', rfl, hL⟩ := hq
    refine Z_mem (mgM ..) ?_
    refine Z_ifb_ne 10 rfl (tgt := 23) rfl (fun c16 => ?_) (fun c16 => ?_)
    · obtain ⟨kk, uu, hA⟩ := c16
      obtain ⟨e1, e2, e3, e4, e5, e6⟩ := hL kk uu hA
      rw [e1, e2, e3, e4, e5, e6]
      have hI := At_in h.1 hA
      have hb := mp_bd h.1 ⟨hI.1.1, hI.1.2.1⟩ hI.2.1
      obtain ⟨cc, k0, k1, k2, k3, k4⟩ := mp_x h.1 hA
      have hb1 := (pl_bd h.1 ⟨hI.1.1, hI.1.2.1⟩ hI.2.1).1
      have hc := cs_bd h.2.1 (c := 0) hb.1 hb.2.2.1 hb.2.2.2
      have ec := (cu_c (S := p.s) k1 k3 k4).2
      have hpos : 0 < cc * rch p.s (pl p.t kk uu) ↔ 0 < rch p.s (pl p.t kk uu) := ⟨fun z => by
        rcases Int.lt_or_le 0 (rch p.s (pl p.t kk uu)) with y | y
        · exact y
        · have := Int.mul_nonpos_of_nonneg_of_nonpos (show 0 ≤ cc by omega) y
          omega, fun z => Int.mul_pos (by omega) z⟩
      have e57 : 57 * mpS p.t kk uu = cc * (57 * (pl p.t kk uu).2.2.1) := by rw [k2]; grind
      refine Z_aload_n 13 rfl rfl rfl ?_
      refine Z_get 14 rfl f_M_21 rfl rfl ?_
      refine Z_iconst 15 rfl ?_
      refine Z_ia 16 rfl rfl (by omega) (by decide) ?_
      refine Z_i2l 17 rfl (by omega) ?_
      refine Z_aload_n 18 rfl rfl rfl ?_
      refine Z_get 19 rfl f_M_179 rfl rfl ?_
      refine Z_lmul 20 rfl ?_
      refine Z_aload_n 21 rfl rfl rfl ?_
      refine Z_get 22 rfl f_M_187 rfl rfl ?_
      refine Z_ladd 23 rfl ?_
      refine Z_cl ec ?_
      refine Z_lstore 24 rfl (Nat.le_of_ble_eq_true rfl) (lv' := [(4, .long _), (0, .ref _), (1, .int _), (2, .int _), (3, .int _)]) rfl ?_
      refine Z_lload 25 rfl rfl ?_
      refine Z_lconst 26 rfl ?_
      refine Z_lc_gt 27 rfl rfl (tgt := 55) rfl (by omega) (by omega) (fun c45 => ?_) (fun c45 => ?_)
      · refine Z_ldc2 31 rfl k_M_239 (c := 57) rfl ?_
        refine Z_aload_n 32 rfl rfl rfl ?_
        refine Z_get 33 rfl f_M_193 rfl rfl ?_
        refine Z_lmul 34 rfl ?_
        refine Z_cl e57 ?_
        refine Z_lload 35 rfl rfl ?_
        refine Z_iload_n 36 rfl rfl rfl ?_
        refine Z_callSlp (M' := M_M_lowest) 37 [] rfl l_M_207 C_M_lowest (c_M_lowest l (cc * (57 * (pl p.t kk uu).2.2.1)) (cc * rch p.s (pl p.t kk uu)) part (by omega) (by omega) hp) ⟨List.nodup_nil, zEL.n⟩ rfl rfl rfl (Nat.le_of_ble_eq_true rfl) ⟨rfl, rfl, Nat.le_of_ble_eq_true rfl, Nat.le_of_ble_eq_true rfl⟩ ⟨Nat.zero_le _, Nat.zero_le _⟩ ?_
        refine Z_lret 38 rfl rfl ⟨Nat.le_refl _, Nat.le_refl _⟩ ?_
        exact ⟨by unfold pressF; (repeat (first | rw [cif_t (by first | assumption | omega)] | rw [cif_f (by first | assumption | omega)])); rw [atV_t h.1 hA]; first | (rw [cif_t (by omega), lo_mul _ _ _ (by omega)]) | (rw [cif_f (by omega)]; rfl), _, _, _, _, _, _, rfl⟩
      · refine Z_ldc2 29 rfl k_M_205 (c := -9223372036854775808) rfl ?_
        refine Z_goto 30 rfl (tgt := 69) rfl ?_
        refine Z_lret 38 rfl rfl ⟨Nat.le_refl _, Nat.le_refl _⟩ ?_
        exact ⟨by unfold pressF; (repeat (first | rw [cif_t (by first | assumption | omega)] | rw [cif_f (by first | assumption | omega)])); rw [atV_t h.1 hA]; first | (rw [cif_t (by omega), lo_mul _ _ _ (by omega)]) | (rw [cif_f (by omega)]; rfl), _, _, _, _, _, _, rfl⟩
    · refine Z_ldc2 11 rfl k_M_205 (c := -9223372036854775808) rfl ?_
      refine Z_lret 12 rfl rfl ⟨Nat.le_refl _, Nat.le_refl _⟩ ?_
      exact ⟨by unfold pressF; (repeat (first | rw [cif_t (by first | assumption | omega)] | rw [cif_f (by first | assumption | omega)])); first | rfl | (rw [atV_f (by assumption)]; rfl), _, _, _, _, _, _, rfl⟩
theorem c_M_isJoin (h : MV p) (j : Int) (hi : inI j) : Con l M_M_isJoin R_M_isJoin 0 0 false [.ref 0, .int (iI j)] (eM p he fa li sl be ov av bl kw sm ma mf mw cj) (zAb (hj p.t j) (fun m => m = eM p he fa li sl be ov av bl kw sm ma mf mw cj)) := by
  refine Con.of_Z (by decide) D_M_isJoin (Nat.le_of_ble_eq_true rfl) ?_
  refine Z_iload_n 0 rfl rfl rfl ?_
  refine Z_if_ne 1 rfl (tgt := 11) rfl (by omega) (fun c1 => ?_) (fun c1 => ?_)
  · refine Z_aload_n 5 rfl rfl rfl ?_
    refine Z_iload_n 6 rfl rfl rfl ?_
    refine Z_callVbp (M' := M_M_isPiece) 7 isM rfl l_M_104 C_M_isPiece (c_M_isPiece l p he fa li sl be ov av bl kw sm ma mf mw cj h.1.1 j hi) (emM ..) (Or.inl ⟨_, _, _, _, rfl, rfl⟩) rfl rfl rfl (Nat.le_of_ble_eq_true rfl) ⟨rfl, rfl, Nat.le_of_ble_eq_true rfl, Nat.le_of_ble_eq_true rfl⟩ ⟨Nat.zero_le _, Nat.zero_le _⟩ ?_
    refine Z_zret 8 rfl rfl (bI_nar _) ⟨Nat.le_refl _, Nat.le_refl _⟩ ?_
    exact ⟨by first | rw [bI_c (show clo p.t ↔ hj p.t j from ⟨fun z => Or.inl ⟨c1, z⟩, fun z => z.elim And.right (fun z => absurd c1 z.1)⟩)] | rw [bI_c (show (0 ≤ j ∧ j < p.t.2.2.2) ↔ hj p.t j from ⟨fun z => Or.inr ⟨c1, z⟩, fun z => z.elim (fun z => absurd z.1 c1) And.right⟩)], rfl⟩
  · refine Z_aload_n 2 rfl rfl rfl ?_
    refine Z_callVbp (M' := M_M_isClosed) 3 isM rfl l_M_119 C_M_isClosed (c_M_isClosed l p he fa li sl be ov av bl kw sm ma mf mw cj h.1.1) (emM ..) (Or.inl ⟨_, _, _, _, rfl, rfl⟩) rfl rfl rfl (Nat.le_of_ble_eq_true rfl) ⟨rfl, rfl, Nat.le_of_ble_eq_true rfl, Nat.le_of_ble_eq_true rfl⟩ ⟨Nat.zero_le _, Nat.zero_le _⟩ ?_
    refine Z_goto 4 rfl (tgt := 16) rfl ?_
    refine Z_zret 8 rfl rfl (bI_nar _) ⟨Nat.le_refl _, Nat.le_refl _⟩ ?_
    exact ⟨by first | rw [bI_c (show clo p.t ↔ hj p.t j from ⟨fun z => Or.inl ⟨c1, z⟩, fun z => z.elim And.right (fun z => absurd c1 z.1)⟩)] | rw [bI_c (show (0 ≤ j ∧ j < p.t.2.2.2) ↔ hj p.t j from ⟨fun z => Or.inr ⟨c1, z⟩, fun z => z.elim (fun z => absurd z.1 c1) And.right⟩)], rfl⟩
theorem hj_At {t : TT} (h : TV t) {j : Int} (hh : hj t j) : At t (bg t j) 0 (pa t j) (t.2.1 (pa t j)) ∧ At t (bg t j) 1 j 0 := by
  obtain ⟨g1, g2⟩ := hj_in h hh
  have l1 := TV_L h g1.1 g1.2
  have l2 := TV_L h g2.1 g2.2
  refine ⟨?_, Or.inl ⟨g1.1, g1.2, by omega, Or.inr ⟨rfl, Int.le_refl 0, by omega⟩⟩⟩
  rcases hh with ⟨y1, y2⟩ | y1
  · have e : pa t j = t.2.2.2 - 1 := by unfold pa; rw [if_pos y1]
    rw [e, y1]
    exact Or.inr ⟨y2, clo_n h y2, Or.inl ⟨rfl, rfl, rfl, rfl⟩⟩
  · have e : pa t j = j - 1 := by unfold pa; rw [if_neg y1.1]
    rw [e] at l2 ⊢
    have e2 := bg_s t (show 0 ≤ j - 1 by omega)
    rw [show j - 1 + 1 = j by omega] at e2
    exact Or.inl ⟨by omega, by omega, e2, Or.inl ⟨rfl, by omega, Int.le_refl _⟩⟩
def JMo (av' bl' : Int) : List zE → Prop := fun m => ∃ he' fa' li' sl' be' ov', m = eM p he' fa' li' sl' be' ov' av' bl' kw sm ma mf mw cj
theorem c_M_jumps (h : MV p) (j what : Int) (hh : hj p.t j) (hw : what = 0 ∨ what = 1) : Con l M_M_jumps R_M_jumps 0 0 false [.ref 0, .int (iI j), .int (iI what)] (eM p he fa li sl be ov av bl kw sm ma mf mw cj) (zAv (JMo p kw sm ma mf mw cj (jpa p.t j (what + 1)) (jpb p.t j (what + 1)))) := by
  obtain ⟨g1, g2⟩ := hj_in h.1 hh
  obtain ⟨A0, A1⟩ := hj_At h.1 hh
  have h1 := h.1.1.1
  have hl1 := TV_L h.1 g1.1 g1.2
  have hl2 := TV_L h.1 g2.1 g2.2
  have hbg := bg_bd h.1.1 (show j ≤ 12 by omega)
  obtain ⟨c0, x0, x1, x2, x3, x4⟩ := mp_e h.1 (k := pa p.t j) (u := p.t.2.1 (pa p.t j)) g2
  obtain ⟨c1, y0, y1, y2, y3, y4⟩ := mp_e h.1 (k := j) (u := 0) g1
  have b0 := mp_bd h.1 g2 (u := p.t.2.1 (pa p.t j)) (by omega)
  have b1 := mp_bd h.1 g1 (u := 0) (by omega)
  have p0 := (pl_bd h.1 g2 (u := p.t.2.1 (pa p.t j)) (by omega)).1
  have p1 := (pl_bd h.1 g1 (u := 0) (by omega)).1
  have v0 : inL (c0 * sbf (what + 1) (pl p.t (pa p.t j) (p.t.2.1 (pa p.t j)))) ∧ c0 * sbf (what + 1) (pl p.t (pa p.t j) (p.t.2.1 (pa p.t j))) ≠ -9223372036854775808 := by unfold sbf; split <;> omega
  have v1 : inL (c1 * sbf (what + 1) (pl p.t j 0)) ∧ c1 * sbf (what + 1) (pl p.t j 0) ≠ -9223372036854775808 := by unfold sbf; split <;> omega
  have o0 : 0 < c0 * (pl p.t (pa p.t j) (p.t.2.1 (pa p.t j))).1 ∧ inL (c0 * (pl p.t (pa p.t j) (p.t.2.1 (pa p.t j))).1) := by omega
  have o1 : 0 < c1 * (pl p.t j 0).1 ∧ inL (c1 * (pl p.t j 0).1) := by omega
  refine Con.of_Z (by decide) D_M_jumps (Nat.le_of_ble_eq_true rfl) ?_
  refine Z_aload_n 0 rfl rfl rfl ?_
  refine Z_iload_n 1 rfl rfl rfl ?_
  refine Z_callVip (M' := M_M_begin) 2 isM rfl l_M_116 C_M_begin (c_M_begin l p he fa li sl be ov av bl kw sm ma mf mw cj j (by omega)) (emM ..) (Or.inl ⟨_, _, _, _, rfl, rfl⟩) rfl rfl rfl (Nat.le_of_ble_eq_true rfl) ⟨rfl, rfl, Nat.le_of_ble_eq_true rfl, Nat.le_of_ble_eq_true rfl⟩ ⟨Nat.zero_le _, Nat.zero_le _⟩ ?_
  refine Z_istore_n 3 rfl rfl (Nat.le_of_ble_eq_true rfl) (lv' := [(3, .int _), (0, .ref _), (1, .int _), (2, .int _)]) rfl ?_
  refine Z_aload_n 4 rfl rfl rfl ?_
  refine Z_iload_n 5 rfl rfl rfl ?_
  refine Z_iconst 6 rfl ?_
  refine Z_callVb (M' := M_M_looks) 7 isM rfl l_M_202 C_M_looks (c_M_looks l p he fa li sl be ov av bl kw sm ma mf mw cj h (bg p.t j) 0 (by omega) (by omega)) (emM ..) (Or.inl ⟨_, _, _, _, rfl, rfl⟩) rfl rfl rfl (Nat.le_of_ble_eq_true rfl) ⟨rfl, rfl, Nat.le_of_ble_eq_true rfl, Nat.le_of_ble_eq_true rfl⟩ ⟨Nat.zero_le _, Nat.zero_le _⟩ (fun out hq => ?_)
  obtain ⟨he', fa', li', sl', be', ov', rfl, hL⟩ := hq
  refine Z_mem (mgM ..) ?_
  obtain ⟨e1, e2, e3, e4, e5, e6⟩ := hL _ _ A0
  rw [e1, e2, e3, e4, e5, e6]
  refine Z_istore 8 rfl (Nat.le_of_ble_eq_true rfl) (lv' := [(4, .int _), (3, .int _), (0, .ref _), (1, .int _), (2, .int _)]) rfl ?_
  refine Z_iload_n 9 rfl rfl rfl ?_
  refine Z_if_ne 10 rfl (tgt := 25) rfl (by omega) (fun c15 => ?_) (fun c15 => ?_)
  · refine Z_aload_n 14 rfl rfl rfl ?_
    refine Z_get 15 rfl f_M_199 rfl rfl ?_
    refine Z_cl (show _ = c0 * sbf (what + 1) (pl p.t (pa p.t j) (p.t.2.1 (pa p.t j))) by unfold sbf; first | (exfalso; omega) | (rw [if_pos (by omega)]; exact x2) | (rw [if_neg (by omega)]; exact x3)) ?_
    refine Z_lstore 16 rfl (Nat.le_of_ble_eq_true rfl) (lv' := [(5, .long _), (4, .int _), (3, .int _), (0, .ref _), (1, .int _), (2, .int _)]) rfl ?_
    refine Z_lload 17 rfl rfl ?_
    refine Z_aload_n 18 rfl rfl rfl ?_
    refine Z_get 19 rfl f_M_179 rfl rfl ?_
    refine Z_cl x4 ?_
    refine Z_iconst 20 rfl ?_
    refine Z_callSlp (M' := M_M_lowest) 21 [] rfl l_M_207 C_M_lowest (c_M_lowest l (c0 * sbf (what + 1) (pl p.t (pa p.t j) (p.t.2.1 (pa p.t j)))) (c0 * (pl p.t (pa p.t j) (p.t.2.1 (pa p.t j))).1) 0 v0 o0 (by omega)) ⟨List.nodup_nil, zEL.n⟩ rfl rfl rfl (Nat.le_of_ble_eq_true rfl) ⟨rfl, rfl, Nat.le_of_ble_eq_true rfl, Nat.le_of_ble_eq_true rfl⟩ ⟨Nat.zero_le _, Nat.zero_le _⟩ ?_
    rw [lo_mul _ _ _ (show 0 < c0 by omega)]
    refine Z_lstore 22 rfl (Nat.le_of_ble_eq_true rfl) (lv' := [(7, .long _), (5, .long _), (4, .int _), (3, .int _), (0, .ref _), (1, .int _), (2, .int _)]) rfl ?_
    refine Z_lload 23 rfl rfl ?_
    refine Z_aload_n 24 rfl rfl rfl ?_
    refine Z_get 25 rfl f_M_179 rfl rfl ?_
    refine Z_cl x4 ?_
    refine Z_iconst 26 rfl ?_
    refine Z_callSlp (M' := M_M_lowest) 27 [] rfl l_M_207 C_M_lowest (c_M_lowest l (c0 * sbf (what + 1) (pl p.t (pa p.t j) (p.t.2.1 (pa p.t j)))) (c0 * (pl p.t (pa p.t j) (p.t.2.1 (pa p.t j))).1) 1 v0 o0 (by omega)) ⟨List.nodup_nil, zEL.n⟩ rfl rfl rfl (Nat.le_of_ble_eq_true rfl) ⟨rfl, rfl, Nat.le_of_ble_eq_true rfl, Nat.le_of_ble_eq_true rfl⟩ ⟨Nat.zero_le _, Nat.zero_le _⟩ ?_
    rw [lo_mul _ _ _ (show 0 < c0 by omega)]
    refine Z_lstore 28 rfl (Nat.le_of_ble_eq_true rfl) (lv' := [(9, .long _), (7, .long _), (5, .long _), (4, .int _), (3, .int _), (0, .ref _), (1, .int _), (2, .int _)]) rfl ?_
    refine Z_aload_n 29 rfl rfl rfl ?_
    refine Z_iload_n 30 rfl rfl rfl ?_
    refine Z_iconst 31 rfl ?_
    refine Z_callVb (M' := M_M_looks) 32 isM rfl l_M_202 C_M_looks (c_M_looks l p _ _ _ _ _ _ av bl kw sm ma mf mw cj h (bg p.t j) 1 (by omega) (by omega)) (emM ..) (Or.inl ⟨_, _, _, _, rfl, rfl⟩) rfl rfl rfl (Nat.le_of_ble_eq_true rfl) ⟨rfl, rfl, Nat.le_of_ble_eq_true rfl, Nat.le_of_ble_eq_true rfl⟩ ⟨Nat.zero_le _, Nat.zero_le _⟩ (fun out hq => ?_)
    obtain ⟨he2, fa2, li2, sl2, be2, ov2, rfl, hL2⟩ := hq
    refine Z_mem (mgM ..) ?_
    obtain ⟨f1, f2, f3, f4, f5, f6⟩ := hL2 _ _ A1
    rw [f1, f2, f3, f4, f5, f6]
    refine Z_istore 33 rfl (Nat.le_of_ble_eq_true rfl) (lv' := [(4, .int _), (9, .long _), (7, .long _), (5, .long _), (3, .int _), (0, .ref _), (1, .int _), (2, .int _)]) rfl ?_
    refine Z_iload_n 34 rfl rfl rfl ?_
    refine Z_if_ne 35 rfl (tgt := 74) rfl (by omega) (fun c64 => ?_) (fun c64 => ?_)
    · refine Z_aload_n 39 rfl rfl rfl ?_
      refine Z_get 40 rfl f_M_199 rfl rfl ?_
      refine Z_cl (show _ = c1 * sbf (what + 1) (pl p.t j 0) by unfold sbf; first | (exfalso; omega) | (rw [if_pos (by omega)]; exact y2) | (rw [if_neg (by omega)]; exact y3)) ?_
      refine Z_lstore 41 rfl (Nat.le_of_ble_eq_true rfl) (lv' := [(11, .long _), (4, .int _), (9, .long _), (7, .long _), (5, .long _), (3, .int _), (0, .ref _), (1, .int _), (2, .int _)]) rfl ?_
      refine Z_lload 42 rfl rfl ?_
      refine Z_aload_n 43 rfl rfl rfl ?_
      refine Z_get 44 rfl f_M_179 rfl rfl ?_
      refine Z_cl y4 ?_
      refine Z_iconst 45 rfl ?_
      refine Z_callSlp (M' := M_M_lowest) 46 [] rfl l_M_207 C_M_lowest (c_M_lowest l (c1 * sbf (what + 1) (pl p.t j 0)) (c1 * (pl p.t j 0).1) 0 v1 o1 (by omega)) ⟨List.nodup_nil, zEL.n⟩ rfl rfl rfl (Nat.le_of_ble_eq_true rfl) ⟨rfl, rfl, Nat.le_of_ble_eq_true rfl, Nat.le_of_ble_eq_true rfl⟩ ⟨Nat.zero_le _, Nat.zero_le _⟩ ?_
      rw [lo_mul _ _ _ (show 0 < c1 by omega)]
      refine Z_lstore 47 rfl (Nat.le_of_ble_eq_true rfl) (lv' := [(13, .long _), (11, .long _), (4, .int _), (9, .long _), (7, .long _), (5, .long _), (3, .int _), (0, .ref _), (1, .int _), (2, .int _)]) rfl ?_
      refine Z_lload 48 rfl rfl ?_
      refine Z_aload_n 49 rfl rfl rfl ?_
      refine Z_get 50 rfl f_M_179 rfl rfl ?_
      refine Z_cl y4 ?_
      refine Z_iconst 51 rfl ?_
      refine Z_callSlp (M' := M_M_lowest) 52 [] rfl l_M_207 C_M_lowest (c_M_lowest l (c1 * sbf (what + 1) (pl p.t j 0)) (c1 * (pl p.t j 0).1) 1 v1 o1 (by omega)) ⟨List.nodup_nil, zEL.n⟩ rfl rfl rfl (Nat.le_of_ble_eq_true rfl) ⟨rfl, rfl, Nat.le_of_ble_eq_true rfl, Nat.le_of_ble_eq_true rfl⟩ ⟨Nat.zero_le _, Nat.zero_le _⟩ ?_
      rw [lo_mul _ _ _ (show 0 < c1 by omega)]
      refine Z_lstore 53 rfl (Nat.le_of_ble_eq_true rfl) (lv' := [(15, .long _), (13, .long _), (11, .long _), (4, .int _), (9, .long _), (7, .long _), (5, .long _), (3, .int _), (0, .ref _), (1, .int _), (2, .int _)]) rfl ?_
      refine Z_aload_n 54 rfl rfl rfl ?_
      refine Z_lload 55 rfl rfl ?_
      refine Z_lload 56 rfl rfl ?_
      refine Z_lmul 57 rfl ?_
      refine Z_lload 58 rfl rfl ?_
      refine Z_lload 59 rfl rfl ?_
      refine Z_lmul 60 rfl ?_
      refine Z_lsub 61 rfl ?_
      refine Z_put 62 rfl f_M_211 rfl (Nat.le_of_ble_eq_true rfl) (fun _ => ⟨rfl, rfl⟩) (fs' := []) (mem' := eM p j 0 (mpL p.t j 0) (mpS p.t j 0) (mpB p.t j 0) (mpO p.t j) (jpa p.t j (what + 1)) bl kw sm ma mf mw cj) rfl ?_
      refine Z_aload_n 63 rfl rfl rfl ?_
      refine Z_lload 64 rfl rfl ?_
      refine Z_lload 65 rfl rfl ?_
      refine Z_lmul 66 rfl ?_
      refine Z_cl (show _ = jpb p.t j (what + 1) from Int.mul_comm _ _) ?_
      refine Z_put 67 rfl f_M_214 rfl (Nat.le_of_ble_eq_true rfl) (fun _ => ⟨rfl, rfl⟩) (fs' := []) (mem' := eM p j 0 (mpL p.t j 0) (mpS p.t j 0) (mpB p.t j 0) (mpO p.t j) (jpa p.t j (what + 1)) (jpb p.t j (what + 1)) kw sm ma mf mw cj) rfl ?_
      refine Z_vret 68 rfl rfl ⟨Nat.le_refl _, Nat.le_refl _⟩ ?_
      exact ⟨rfl, _, _, _, _, _, _, rfl⟩
    · refine Z_aload_n 36 rfl rfl rfl ?_
      refine Z_get 37 rfl f_M_193 rfl rfl ?_
      refine Z_goto 38 rfl (tgt := 78) rfl ?_
      refine Z_cl (show _ = c1 * sbf (what + 1) (pl p.t j 0) by unfold sbf; first | (exfalso; omega) | (rw [if_pos (by omega)]; exact y2) | (rw [if_neg (by omega)]; exact y3)) ?_
      refine Z_lstore 41 rfl (Nat.le_of_ble_eq_true rfl) (lv' := [(11, .long _), (4, .int _), (9, .long _), (7, .long _), (5, .long _), (3, .int _), (0, .ref _), (1, .int _), (2, .int _)]) rfl ?_
      refine Z_lload 42 rfl rfl ?_
      refine Z_aload_n 43 rfl rfl rfl ?_
      refine Z_get 44 rfl f_M_179 rfl rfl ?_
      refine Z_cl y4 ?_
      refine Z_iconst 45 rfl ?_
      refine Z_callSlp (M' := M_M_lowest) 46 [] rfl l_M_207 C_M_lowest (c_M_lowest l (c1 * sbf (what + 1) (pl p.t j 0)) (c1 * (pl p.t j 0).1) 0 v1 o1 (by omega)) ⟨List.nodup_nil, zEL.n⟩ rfl rfl rfl (Nat.le_of_ble_eq_true rfl) ⟨rfl, rfl, Nat.le_of_ble_eq_true rfl, Nat.le_of_ble_eq_true rfl⟩ ⟨Nat.zero_le _, Nat.zero_le _⟩ ?_
      rw [lo_mul _ _ _ (show 0 < c1 by omega)]
      refine Z_lstore 47 rfl (Nat.le_of_ble_eq_true rfl) (lv' := [(13, .long _), (11, .long _), (4, .int _), (9, .long _), (7, .long _), (5, .long _), (3, .int _), (0, .ref _), (1, .int _), (2, .int _)]) rfl ?_
      refine Z_lload 48 rfl rfl ?_
      refine Z_aload_n 49 rfl rfl rfl ?_
      refine Z_get 50 rfl f_M_179 rfl rfl ?_
      refine Z_cl y4 ?_
      refine Z_iconst 51 rfl ?_
      refine Z_callSlp (M' := M_M_lowest) 52 [] rfl l_M_207 C_M_lowest (c_M_lowest l (c1 * sbf (what + 1) (pl p.t j 0)) (c1 * (pl p.t j 0).1) 1 v1 o1 (by omega)) ⟨List.nodup_nil, zEL.n⟩ rfl rfl rfl (Nat.le_of_ble_eq_true rfl) ⟨rfl, rfl, Nat.le_of_ble_eq_true rfl, Nat.le_of_ble_eq_true rfl⟩ ⟨Nat.zero_le _, Nat.zero_le _⟩ ?_
      rw [lo_mul _ _ _ (show 0 < c1 by omega)]
      refine Z_lstore 53 rfl (Nat.le_of_ble_eq_true rfl) (lv' := [(15, .long _), (13, .long _), (11, .long _), (4, .int _), (9, .long _), (7, .long _), (5, .long _), (3, .int _), (0, .ref _), (1, .int _), (2, .int _)]) rfl ?_
      refine Z_aload_n 54 rfl rfl rfl ?_
      refine Z_lload 55 rfl rfl ?_
      refine Z_lload 56 rfl rfl ?_
      refine Z_lmul 57 rfl ?_
      refine Z_lload 58 rfl rfl ?_
      refine Z_lload 59 rfl rfl ?_
      refine Z_lmul 60 rfl ?_
      refine Z_lsub 61 rfl ?_
      refine Z_put 62 rfl f_M_211 rfl (Nat.le_of_ble_eq_true rfl) (fun _ => ⟨rfl, rfl⟩) (fs' := []) (mem' := eM p j 0 (mpL p.t j 0) (mpS p.t j 0) (mpB p.t j 0) (mpO p.t j) (jpa p.t j (what + 1)) bl kw sm ma mf mw cj) rfl ?_
      refine Z_aload_n 63 rfl rfl rfl ?_
      refine Z_lload 64 rfl rfl ?_
      refine Z_lload 65 rfl rfl ?_
      refine Z_lmul 66 rfl ?_
      refine Z_cl (show _ = jpb p.t j (what + 1) from Int.mul_comm _ _) ?_
      refine Z_put 67 rfl f_M_214 rfl (Nat.le_of_ble_eq_true rfl) (fun _ => ⟨rfl, rfl⟩) (fs' := []) (mem' := eM p j 0 (mpL p.t j 0) (mpS p.t j 0) (mpB p.t j 0) (mpO p.t j) (jpa p.t j (what + 1)) (jpb p.t j (what + 1)) kw sm ma mf mw cj) rfl ?_
      refine Z_vret 68 rfl rfl ⟨Nat.le_refl _, Nat.le_refl _⟩ ?_
      exact ⟨rfl, _, _, _, _, _, _, rfl⟩
  · refine Z_aload_n 11 rfl rfl rfl ?_
    refine Z_get 12 rfl f_M_193 rfl rfl ?_
    refine Z_goto 13 rfl (tgt := 29) rfl ?_
    refine Z_cl (show _ = c0 * sbf (what + 1) (pl p.t (pa p.t j) (p.t.2.1 (pa p.t j))) by unfold sbf; first | (exfalso; omega) | (rw [if_pos (by omega)]; exact x2) | (rw [if_neg (by omega)]; exact x3)) ?_
    refine Z_lstore 16 rfl (Nat.le_of_ble_eq_true rfl) (lv' := [(5, .long _), (4, .int _), (3, .int _), (0, .ref _), (1, .int _), (2, .int _)]) rfl ?_
    refine Z_lload 17 rfl rfl ?_
    refine Z_aload_n 18 rfl rfl rfl ?_
    refine Z_get 19 rfl f_M_179 rfl rfl ?_
    refine Z_cl x4 ?_
    refine Z_iconst 20 rfl ?_
    refine Z_callSlp (M' := M_M_lowest) 21 [] rfl l_M_207 C_M_lowest (c_M_lowest l (c0 * sbf (what + 1) (pl p.t (pa p.t j) (p.t.2.1 (pa p.t j)))) (c0 * (pl p.t (pa p.t j) (p.t.2.1 (pa p.t j))).1) 0 v0 o0 (by omega)) ⟨List.nodup_nil, zEL.n⟩ rfl rfl rfl (Nat.le_of_ble_eq_true rfl) ⟨rfl, rfl, Nat.le_of_ble_eq_true rfl, Nat.le_of_ble_eq_true rfl⟩ ⟨Nat.zero_le _, Nat.zero_le _⟩ ?_
    rw [lo_mul _ _ _ (show 0 < c0 by omega)]
    refine Z_lstore 22 rfl (Nat.le_of_ble_eq_true rfl) (lv' := [(7, .long _), (5, .long _), (4, .int _), (3, .int _), (0, .ref _), (1, .int _), (2, .int _)]) rfl ?_
    refine Z_lload 23 rfl rfl ?_
    refine Z_aload_n 24 rfl rfl rfl ?_
    refine Z_get 25 rfl f_M_179 rfl rfl ?_
    refine Z_cl x4 ?_
    refine Z_iconst 26 rfl ?_
    refine Z_callSlp (M' := M_M_lowest) 27 [] rfl l_M_207 C_M_lowest (c_M_lowest l (c0 * sbf (what + 1) (pl p.t (pa p.t j) (p.t.2.1 (pa p.t j)))) (c0 * (pl p.t (pa p.t j) (p.t.2.1 (pa p.t j))).1) 1 v0 o0 (by omega)) ⟨List.nodup_nil, zEL.n⟩ rfl rfl rfl (Nat.le_of_ble_eq_true rfl) ⟨rfl, rfl, Nat.le_of_ble_eq_true rfl, Nat.le_of_ble_eq_true rfl⟩ ⟨Nat.zero_le _, Nat.zero_le _⟩ ?_
    rw [lo_mul _ _ _ (show 0 < c0 by omega)]
    refine Z_lstore 28 rfl (Nat.le_of_ble_eq_true rfl) (lv' := [(9, .long _), (7, .long _), (5, .long _), (4, .int _), (3, .int _), (0, .ref _), (1, .int _), (2, .int _)]) rfl ?_
    refine Z_aload_n 29 rfl rfl rfl ?_
    refine Z_iload_n 30 rfl rfl rfl ?_
    refine Z_iconst 31 rfl ?_
    refine Z_callVb (M' := M_M_looks) 32 isM rfl l_M_202 C_M_looks (c_M_looks l p _ _ _ _ _ _ av bl kw sm ma mf mw cj h (bg p.t j) 1 (by omega) (by omega)) (emM ..) (Or.inl ⟨_, _, _, _, rfl, rfl⟩) rfl rfl rfl (Nat.le_of_ble_eq_true rfl) ⟨rfl, rfl, Nat.le_of_ble_eq_true rfl, Nat.le_of_ble_eq_true rfl⟩ ⟨Nat.zero_le _, Nat.zero_le _⟩ (fun out hq => ?_)
    obtain ⟨he2, fa2, li2, sl2, be2, ov2, rfl, hL2⟩ := hq
    refine Z_mem (mgM ..) ?_
    obtain ⟨f1, f2, f3, f4, f5, f6⟩ := hL2 _ _ A1
    rw [f1, f2, f3, f4, f5, f6]
    refine Z_istore 33 rfl (Nat.le_of_ble_eq_true rfl) (lv' := [(4, .int _), (9, .long _), (7, .long _), (5, .long _), (3, .int _), (0, .ref _), (1, .int _), (2, .int _)]) rfl ?_
    refine Z_iload_n 34 rfl rfl rfl ?_
    refine Z_if_ne 35 rfl (tgt := 74) rfl (by omega) (fun c64 => ?_) (fun c64 => ?_)
    · refine Z_aload_n 39 rfl rfl rfl ?_
      refine Z_get 40 rfl f_M_199 rfl rfl ?_
      refine Z_cl (show _ = c1 * sbf (what + 1) (pl p.t j 0) by unfold sbf; first | (exfalso; omega) | (rw [if_pos (by omega)]; exact y2) | (rw [if_neg (by omega)]; exact y3)) ?_
      refine Z_lstore 41 rfl (Nat.le_of_ble_eq_true rfl) (lv' := [(11, .long _), (4, .int _), (9, .long _), (7, .long _), (5, .long _), (3, .int _), (0, .ref _), (1, .int _), (2, .int _)]) rfl ?_
      refine Z_lload 42 rfl rfl ?_
      refine Z_aload_n 43 rfl rfl rfl ?_
      refine Z_get 44 rfl f_M_179 rfl rfl ?_
      refine Z_cl y4 ?_
      refine Z_iconst 45 rfl ?_
      refine Z_callSlp (M' := M_M_lowest) 46 [] rfl l_M_207 C_M_lowest (c_M_lowest l (c1 * sbf (what + 1) (pl p.t j 0)) (c1 * (pl p.t j 0).1) 0 v1 o1 (by omega)) ⟨List.nodup_nil, zEL.n⟩ rfl rfl rfl (Nat.le_of_ble_eq_true rfl) ⟨rfl, rfl, Nat.le_of_ble_eq_true rfl, Nat.le_of_ble_eq_true rfl⟩ ⟨Nat.zero_le _, Nat.zero_le _⟩ ?_
      rw [lo_mul _ _ _ (show 0 < c1 by omega)]
      refine Z_lstore 47 rfl (Nat.le_of_ble_eq_true rfl) (lv' := [(13, .long _), (11, .long _), (4, .int _), (9, .long _), (7, .long _), (5, .long _), (3, .int _), (0, .ref _), (1, .int _), (2, .int _)]) rfl ?_
      refine Z_lload 48 rfl rfl ?_
      refine Z_aload_n 49 rfl rfl rfl ?_
      refine Z_get 50 rfl f_M_179 rfl rfl ?_
      refine Z_cl y4 ?_
      refine Z_iconst 51 rfl ?_
      refine Z_callSlp (M' := M_M_lowest) 52 [] rfl l_M_207 C_M_lowest (c_M_lowest l (c1 * sbf (what + 1) (pl p.t j 0)) (c1 * (pl p.t j 0).1) 1 v1 o1 (by omega)) ⟨List.nodup_nil, zEL.n⟩ rfl rfl rfl (Nat.le_of_ble_eq_true rfl) ⟨rfl, rfl, Nat.le_of_ble_eq_true rfl, Nat.le_of_ble_eq_true rfl⟩ ⟨Nat.zero_le _, Nat.zero_le _⟩ ?_
      rw [lo_mul _ _ _ (show 0 < c1 by omega)]
      refine Z_lstore 53 rfl (Nat.le_of_ble_eq_true rfl) (lv' := [(15, .long _), (13, .long _), (11, .long _), (4, .int _), (9, .long _), (7, .long _), (5, .long _), (3, .int _), (0, .ref _), (1, .int _), (2, .int _)]) rfl ?_
      refine Z_aload_n 54 rfl rfl rfl ?_
      refine Z_lload 55 rfl rfl ?_
      refine Z_lload 56 rfl rfl ?_
      refine Z_lmul 57 rfl ?_
      refine Z_lload 58 rfl rfl ?_
      refine Z_lload 59 rfl rfl ?_
      refine Z_lmul 60 rfl ?_
      refine Z_lsub 61 rfl ?_
      refine Z_put 62 rfl f_M_211 rfl (Nat.le_of_ble_eq_true rfl) (fun _ => ⟨rfl, rfl⟩) (fs' := []) (mem' := eM p j 0 (mpL p.t j 0) (mpS p.t j 0) (mpB p.t j 0) (mpO p.t j) (jpa p.t j (what + 1)) bl kw sm ma mf mw cj) rfl ?_
      refine Z_aload_n 63 rfl rfl rfl ?_
      refine Z_lload 64 rfl rfl ?_
      refine Z_lload 65 rfl rfl ?_
      refine Z_lmul 66 rfl ?_
      refine Z_cl (show _ = jpb p.t j (what + 1) from Int.mul_comm _ _) ?_
      refine Z_put 67 rfl f_M_214 rfl (Nat.le_of_ble_eq_true rfl) (fun _ => ⟨rfl, rfl⟩) (fs' := []) (mem' := eM p j 0 (mpL p.t j 0) (mpS p.t j 0) (mpB p.t j 0) (mpO p.t j) (jpa p.t j (what + 1)) (jpb p.t j (what + 1)) kw sm ma mf mw cj) rfl ?_
      refine Z_vret 68 rfl rfl ⟨Nat.le_refl _, Nat.le_refl _⟩ ?_
      exact ⟨rfl, _, _, _, _, _, _, rfl⟩
    · refine Z_aload_n 36 rfl rfl rfl ?_
      refine Z_get 37 rfl f_M_193 rfl rfl ?_
      refine Z_goto 38 rfl (tgt := 78) rfl ?_
      refine Z_cl (show _ = c1 * sbf (what + 1) (pl p.t j 0) by unfold sbf; first | (exfalso; omega) | (rw [if_pos (by omega)]; exact y2) | (rw [if_neg (by omega)]; exact y3)) ?_
      refine Z_lstore 41 rfl (Nat.le_of_ble_eq_true rfl) (lv' := [(11, .long _), (4, .int _), (9, .long _), (7, .long _), (5, .long _), (3, .int _), (0, .ref _), (1, .int _), (2, .int _)]) rfl ?_
      refine Z_lload 42 rfl rfl ?_
      refine Z_aload_n 43 rfl rfl rfl ?_
      refine Z_get 44 rfl f_M_179 rfl rfl ?_
      refine Z_cl y4 ?_
      refine Z_iconst 45 rfl ?_
      refine Z_callSlp (M' := M_M_lowest) 46 [] rfl l_M_207 C_M_lowest (c_M_lowest l (c1 * sbf (what + 1) (pl p.t j 0)) (c1 * (pl p.t j 0).1) 0 v1 o1 (by omega)) ⟨List.nodup_nil, zEL.n⟩ rfl rfl rfl (Nat.le_of_ble_eq_true rfl) ⟨rfl, rfl, Nat.le_of_ble_eq_true rfl, Nat.le_of_ble_eq_true rfl⟩ ⟨Nat.zero_le _, Nat.zero_le _⟩ ?_
      rw [lo_mul _ _ _ (show 0 < c1 by omega)]
      refine Z_lstore 47 rfl (Nat.le_of_ble_eq_true rfl) (lv' := [(13, .long _), (11, .long _), (4, .int _), (9, .long _), (7, .long _), (5, .long _), (3, .int _), (0, .ref _), (1, .int _), (2, .int _)]) rfl ?_
      refine Z_lload 48 rfl rfl ?_
      refine Z_aload_n 49 rfl rfl rfl ?_
      refine Z_get 50 rfl f_M_179 rfl rfl ?_
      refine Z_cl y4 ?_
      refine Z_iconst 51 rfl ?_
      refine Z_callSlp (M' := M_M_lowest) 52 [] rfl l_M_207 C_M_lowest (c_M_lowest l (c1 * sbf (what + 1) (pl p.t j 0)) (c1 * (pl p.t j 0).1) 1 v1 o1 (by omega)) ⟨List.nodup_nil, zEL.n⟩ rfl rfl rfl (Nat.le_of_ble_eq_true rfl) ⟨rfl, rfl, Nat.le_of_ble_eq_true rfl, Nat.le_of_ble_eq_true rfl⟩ ⟨Nat.zero_le _, Nat.zero_le _⟩ ?_
      rw [lo_mul _ _ _ (show 0 < c1 by omega)]
      refine Z_lstore 53 rfl (Nat.le_of_ble_eq_true rfl) (lv' := [(15, .long _), (13, .long _), (11, .long _), (4, .int _), (9, .long _), (7, .long _), (5, .long _), (3, .int _), (0, .ref _), (1, .int _), (2, .int _)]) rfl ?_
      refine Z_aload_n 54 rfl rfl rfl ?_
      refine Z_lload 55 rfl rfl ?_
      refine Z_lload 56 rfl rfl ?_
      refine Z_lmul 57 rfl ?_
      refine Z_lload 58 rfl rfl ?_
      refine Z_lload 59 rfl rfl ?_
      refine Z_lmul 60 rfl ?_
      refine Z_lsub 61 rfl ?_
      refine Z_put 62 rfl f_M_211 rfl (Nat.le_of_ble_eq_true rfl) (fun _ => ⟨rfl, rfl⟩) (fs' := []) (mem' := eM p j 0 (mpL p.t j 0) (mpS p.t j 0) (mpB p.t j 0) (mpO p.t j) (jpa p.t j (what + 1)) bl kw sm ma mf mw cj) rfl ?_
      refine Z_aload_n 63 rfl rfl rfl ?_
      refine Z_lload 64 rfl rfl ?_
      refine Z_lload 65 rfl rfl ?_
      refine Z_lmul 66 rfl ?_
      refine Z_cl (show _ = jpb p.t j (what + 1) from Int.mul_comm _ _) ?_
      refine Z_put 67 rfl f_M_214 rfl (Nat.le_of_ble_eq_true rfl) (fun _ => ⟨rfl, rfl⟩) (fs' := []) (mem' := eM p j 0 (mpL p.t j 0) (mpS p.t j 0) (mpB p.t j 0) (mpO p.t j) (jpa p.t j (what + 1)) (jpb p.t j (what + 1)) kw sm ma mf mw cj) rfl ?_
      refine Z_vret 68 rfl rfl ⟨Nat.le_refl _, Nat.le_refl _⟩ ?_
      exact ⟨rfl, _, _, _, _, _, _, rfl⟩
def LJ : List zE → Prop := fun m => ∃ he' fa' li' sl' be' ov' av' bl', m = eM p he' fa' li' sl' be' ov' av' bl' kw sm ma mf mw cj
theorem c_M_jump (h : MV p) (j what part : Int) (hi : inI j) (hw : inI what) (hp : inI part) : Con l M_M_jump R_M_jump 0 0 false [.ref 0, .int (iI j), .int (iI what), .int (iI part)] (eM p he fa li sl be ov av bl kw sm ma mf mw cj) (zAl (jumpF p.t j what part) (LJ p kw sm ma mf mw cj)) := by
  refine Con.of_Z (by decide) D_M_jump (Nat.le_of_ble_eq_true rfl) ?_
  refine Z_aload_n 0 rfl rfl rfl ?_
  refine Z_iload_n 1 rfl rfl rfl ?_
  refine Z_callVbp (M' := M_M_isJoin) 2 isM rfl l_M_217 C_M_isJoin (c_M_isJoin l p he fa li sl be ov av bl kw sm ma mf mw cj h j hi) (emM ..) (Or.inl ⟨_, _, _, _, rfl, rfl⟩) rfl rfl rfl (Nat.le_of_ble_eq_true rfl) ⟨rfl, rfl, Nat.le_of_ble_eq_true rfl, Nat.le_of_ble_eq_true rfl⟩ ⟨Nat.zero_le _, Nat.zero_le _⟩ ?_
  refine Z_ifb_eq 3 rfl (tgt := 28) rfl (fun c5 => ?_) (fun c5 => ?_)
  · refine Z_ldc2 16 rfl k_M_205 (c := -9223372036854775808) rfl ?_
    refine Z_lret 17 rfl rfl ⟨Nat.le_refl _, Nat.le_refl _⟩ ?_
    exact ⟨by unfold jumpF; (repeat (first | rw [cif_t (by first | assumption | omega)] | rw [cif_f (by first | assumption | omega)])) <;> rfl, _, _, _, _, _, _, _, _, rfl⟩
  · refine Z_iload_n 4 rfl rfl rfl ?_
    refine Z_i2l 5 rfl (by omega) ?_
    refine Z_lconst 6 rfl ?_
    refine Z_lconst 7 rfl ?_
    refine Z_callSbp (M' := M_M_in) 8 [] rfl l_M_80 C_M_in (c_M_in l _ _ _ (by omega) (by omega) (by omega)) ⟨List.nodup_nil, zEL.n⟩ rfl rfl rfl (Nat.le_of_ble_eq_true rfl) ⟨rfl, rfl, Nat.le_of_ble_eq_true rfl, Nat.le_of_ble_eq_true rfl⟩ ⟨Nat.zero_le _, Nat.zero_le _⟩ ?_
    refine Z_ifb_eq 9 rfl (tgt := 28) rfl (fun c15 => ?_) (fun c15 => ?_)
    · refine Z_ldc2 16 rfl k_M_205 (c := -9223372036854775808) rfl ?_
      refine Z_lret 17 rfl rfl ⟨Nat.le_refl _, Nat.le_refl _⟩ ?_
      exact ⟨by unfold jumpF; (repeat (first | rw [cif_t (by first | assumption | omega)] | rw [cif_f (by first | assumption | omega)])) <;> rfl, _, _, _, _, _, _, _, _, rfl⟩
    · refine Z_iload_n 10 rfl rfl rfl ?_
      refine Z_i2l 11 rfl (by omega) ?_
      refine Z_lconst 12 rfl ?_
      refine Z_lconst 13 rfl ?_
      refine Z_callSbp (M' := M_M_in) 14 [] rfl l_M_80 C_M_in (c_M_in l _ _ _ (by omega) (by omega) (by omega)) ⟨List.nodup_nil, zEL.n⟩ rfl rfl rfl (Nat.le_of_ble_eq_true rfl) ⟨rfl, rfl, Nat.le_of_ble_eq_true rfl, Nat.le_of_ble_eq_true rfl⟩ ⟨Nat.zero_le _, Nat.zero_le _⟩ ?_
      refine Z_ifb_ne 15 rfl (tgt := 32) rfl (fun c25 => ?_) (fun c25 => ?_)
      · have hbj := jp_bd h.1 (what + 1) c5
        refine Z_aload_n 18 rfl rfl rfl ?_
        refine Z_iload_n 19 rfl rfl rfl ?_
        refine Z_iload_n 20 rfl rfl rfl ?_
        refine Z_callVv (M' := M_M_jumps) 21 isM rfl l_M_220 C_M_jumps (c_M_jumps l p he fa li sl be ov av bl kw sm ma mf mw cj h j what c5 (by omega)) (emM ..) (Or.inl ⟨_, _, _, _, rfl, rfl⟩) rfl rfl rfl (Nat.le_of_ble_eq_true rfl) ⟨rfl, rfl, Nat.le_of_ble_eq_true rfl, Nat.le_of_ble_eq_true rfl⟩ ⟨Nat.zero_le _, Nat.zero_le _⟩ (fun out hq => ?_)
        obtain ⟨he', fa', li', sl', be', ov', rfl⟩ := hq
        refine Z_mem (mgM ..) ?_
        refine Z_aload_n 22 rfl rfl rfl ?_
        refine Z_get 23 rfl f_M_211 rfl rfl ?_
        refine Z_aload_n 24 rfl rfl rfl ?_
        refine Z_get 25 rfl f_M_214 rfl rfl ?_
        refine Z_iload_n 26 rfl rfl rfl ?_
        refine Z_callSlp (M' := M_M_lowest) 27 [] rfl l_M_207 C_M_lowest (c_M_lowest l (jpa p.t j (what + 1)) (jpb p.t j (what + 1)) part (by omega) (by omega) hp) ⟨List.nodup_nil, zEL.n⟩ rfl rfl rfl (Nat.le_of_ble_eq_true rfl) ⟨rfl, rfl, Nat.le_of_ble_eq_true rfl, Nat.le_of_ble_eq_true rfl⟩ ⟨Nat.zero_le _, Nat.zero_le _⟩ ?_
        refine Z_lret 28 rfl rfl ⟨Nat.le_refl _, Nat.le_refl _⟩ ?_
        exact ⟨by unfold jumpF; (repeat (first | rw [cif_t (by first | assumption | omega)] | rw [cif_f (by first | assumption | omega)])), _, _, _, _, _, _, _, _, rfl⟩
      · refine Z_ldc2 16 rfl k_M_205 (c := -9223372036854775808) rfl ?_
        refine Z_lret 17 rfl rfl ⟨Nat.le_refl _, Nat.le_refl _⟩ ?_
        exact ⟨by unfold jumpF; (repeat (first | rw [cif_t (by first | assumption | omega)] | rw [cif_f (by first | assumption | omega)])) <;> rfl, _, _, _, _, _, _, _, _, rfl⟩
theorem c_M_joinOf (h : MV p) (j : Int) (hh : hj p.t j) : Con l M_M_joinOf R_M_joinOf 0 0 false [.ref 0, .int (iI j)] (eM p he fa li sl be ov av bl kw sm ma mf mw cj) (zAi (jkd p.t j) (LJ p kw sm ma mf mw cj)) := by
  have d1 := jp_bd h.1 1 hh
  have d2 := jp_bd h.1 2 hh
  refine Con.of_Z (by decide) D_M_joinOf (Nat.le_of_ble_eq_true rfl) ?_
  refine Z_aload_n 0 rfl rfl rfl ?_
  refine Z_iload_n 1 rfl rfl rfl ?_
  refine Z_iconst 2 rfl ?_
  refine Z_callVv (M' := M_M_jumps) 3 isM rfl l_M_220 C_M_jumps (c_M_jumps l p he fa li sl be ov av bl kw sm ma mf mw cj h j 0 hh (Or.inl rfl)) (emM ..) (Or.inl ⟨_, _, _, _, rfl, rfl⟩) rfl rfl rfl (Nat.le_of_ble_eq_true rfl) ⟨rfl, rfl, Nat.le_of_ble_eq_true rfl, Nat.le_of_ble_eq_true rfl⟩ ⟨Nat.zero_le _, Nat.zero_le _⟩ (fun out hq => ?_)
  obtain ⟨he', fa', li', sl', be', ov', rfl⟩ := hq
  refine Z_mem (mgM ..) ?_
  rw [show (0 : Int) + 1 = 1 from rfl]
  refine Z_aload_n 4 rfl rfl rfl ?_
  refine Z_get 5 rfl f_M_211 rfl rfl ?_
  refine Z_lconst 6 rfl ?_
  refine Z_lc_eq 7 rfl rfl (tgt := 17) rfl (by omega) (by omega) (fun c11 => ?_) (fun c11 => ?_)
  · refine Z_aload_n 11 rfl rfl rfl ?_
    refine Z_iload_n 12 rfl rfl rfl ?_
    refine Z_iconst 13 rfl ?_
    refine Z_callVv (M' := M_M_jumps) 14 isM rfl l_M_220 C_M_jumps (c_M_jumps l p _ _ _ _ _ _ _ _ kw sm ma mf mw cj h j 1 hh (Or.inr rfl)) (emM ..) (Or.inl ⟨_, _, _, _, rfl, rfl⟩) rfl rfl rfl (Nat.le_of_ble_eq_true rfl) ⟨rfl, rfl, Nat.le_of_ble_eq_true rfl, Nat.le_of_ble_eq_true rfl⟩ ⟨Nat.zero_le _, Nat.zero_le _⟩ (fun out hq => ?_)
    obtain ⟨he2, fa2, li2, sl2, be2, ov2, rfl⟩ := hq
    refine Z_mem (mgM ..) ?_
    rw [show (1 : Int) + 1 = 2 from rfl]
    refine Z_aload_n 15 rfl rfl rfl ?_
    refine Z_get 16 rfl f_M_211 rfl rfl ?_
    refine Z_lconst 17 rfl ?_
    refine Z_lc_eq 18 rfl rfl (tgt := 36) rfl (by omega) (by omega) (fun c28 => ?_) (fun c28 => ?_)
    · refine Z_iconst 22 rfl ?_
      refine Z_iret 23 rfl rfl ⟨Nat.le_refl _, Nat.le_refl _⟩ ?_
      exact ⟨by unfold jkd; (repeat (first | rw [cif_t (by first | assumption | omega)] | rw [cif_f (by first | assumption | omega)])), _, _, _, _, _, _, _, _, rfl⟩
    · refine Z_iconst 20 rfl ?_
      refine Z_goto 21 rfl (tgt := 37) rfl ?_
      refine Z_iret 23 rfl rfl ⟨Nat.le_refl _, Nat.le_refl _⟩ ?_
      exact ⟨by unfold jkd; (repeat (first | rw [cif_t (by first | assumption | omega)] | rw [cif_f (by first | assumption | omega)])), _, _, _, _, _, _, _, _, rfl⟩
  · refine Z_iconst 9 rfl ?_
    refine Z_iret 10 rfl rfl ⟨Nat.le_refl _, Nat.le_refl _⟩ ?_
    exact ⟨by unfold jkd; (repeat (first | rw [cif_t (by first | assumption | omega)] | rw [cif_f (by first | assumption | omega)])), _, _, _, _, _, _, _, _, rfl⟩
theorem c_M_join (h : MV p) (j : Int) (hi : inI j) : Con l M_M_join R_M_join 0 0 false [.ref 0, .int (iI j)] (eM p he fa li sl be ov av bl kw sm ma mf mw cj) (zAi (joinF p.t j) (LJ p kw sm ma mf mw cj)) := by
  refine Con.of_Z (by decide) D_M_join (Nat.le_of_ble_eq_true rfl) ?_
  refine Z_aload_n 0 rfl rfl rfl ?_
  refine Z_iload_n 1 rfl rfl rfl ?_
  refine Z_callVbp (M' := M_M_isJoin) 2 isM rfl l_M_217 C_M_isJoin (c_M_isJoin l p he fa li sl be ov av bl kw sm ma mf mw cj h j hi) (emM ..) (Or.inl ⟨_, _, _, _, rfl, rfl⟩) rfl rfl rfl (Nat.le_of_ble_eq_true rfl) ⟨rfl, rfl, Nat.le_of_ble_eq_true rfl, Nat.le_of_ble_eq_true rfl⟩ ⟨Nat.zero_le _, Nat.zero_le _⟩ ?_
  refine Z_ifb_eq 3 rfl (tgt := 16) rfl (fun c5 => ?_) (fun c5 => ?_)
  · refine Z_iconst 8 rfl ?_
    refine Z_iret 9 rfl rfl ⟨Nat.le_refl _, Nat.le_refl _⟩ ?_
    exact ⟨by unfold joinF; (repeat (first | rw [cif_t (by first | assumption | omega)] | rw [cif_f (by first | assumption | omega)])), _, _, _, _, _, _, _, _, rfl⟩
  · refine Z_aload_n 4 rfl rfl rfl ?_
    refine Z_iload_n 5 rfl rfl rfl ?_
    refine Z_callVi (M' := M_M_joinOf) 6 isM rfl l_M_224 C_M_joinOf (c_M_joinOf l p he fa li sl be ov av bl kw sm ma mf mw cj h j c5) (emM ..) (Or.inl ⟨_, _, _, _, rfl, rfl⟩) rfl rfl rfl (Nat.le_of_ble_eq_true rfl) ⟨rfl, rfl, Nat.le_of_ble_eq_true rfl, Nat.le_of_ble_eq_true rfl⟩ ⟨Nat.zero_le _, Nat.zero_le _⟩ (fun out hq => ?_)
    obtain ⟨he', fa', li', sl', be', ov', av', bl', rfl⟩ := hq
    refine Z_mem (mgM ..) ?_
    refine Z_goto 7 rfl (tgt := 17) rfl ?_
    refine Z_iret 9 rfl rfl ⟨Nat.le_refl _, Nat.le_refl _⟩ ?_
    exact ⟨by unfold joinF; (repeat (first | rw [cif_t (by first | assumption | omega)] | rw [cif_f (by first | assumption | omega)])), _, _, _, _, _, _, _, _, rfl⟩
theorem lp_M_joins (h : MV p) (what : Int) (hw : 0 ≤ what ∧ what ≤ 2) : ∀ (d : Nat) (k he fa li sl be ov av bl : Int), 0 ≤ k → k ≤ p.t.2.2.2 → p.t.2.2.2 - k < d → Z (l, M_M_joins, R_M_joins, (0, 0), false, zAi (jbI p.t what p.t.2.2.2).toInt (LJ p kw sm ma mf mw cj)) 0 0 (eM p he fa li sl be ov av bl kw sm ma mf mw cj) 18 [(0, .ref 0), (1, .int (iI what)), (2, .int (jbI p.t what k)), (3, .int (iI k))] [] := by
  have h1 := h.1.1.1
  intro d
  induction d with
  | zero => intro k he fa li sl be ov av bl h2 h3 h4; omega
  | succ d ih =>
    intro k he fa li sl be ov av bl h2 h3 h4
    have e := jbI_s p.t what h2
    have hkb2 : 0 ≤ jkd p.t k ∧ jkd p.t k ≤ 2 := by
      unfold jkd
      by_cases z1 : jpa p.t k 1 = 0
      · rw [cif_t z1]
        by_cases z2 : jpa p.t k 2 = 0
        · rw [cif_t z2]; omega
        · rw [cif_f z2]; omega
      · rw [cif_f z1]; omega
    refine Z_iload_n 12 rfl rfl rfl ?_
    refine Z_aload_n 13 rfl rfl rfl ?_
    refine Z_get 14 rfl f_M_77 rfl rfl ?_
    refine Z_icmp_ge 15 rfl (tgt := 55) rfl (by omega) (by omega) (fun c23 => ?_) (fun c23 => ?_)
    · refine Z_iload_n 33 rfl rfl rfl ?_
      refine Z_iret 34 rfl rfl ⟨Nat.le_refl _, Nat.le_refl _⟩ ?_
      exact ⟨by rw [show p.t.2.2.2 = k by omega, iI_o], _, _, _, _, _, _, _, _, rfl⟩
    · refine Z_aload_n 16 rfl rfl rfl ?_
      refine Z_iload_n 17 rfl rfl rfl ?_
      refine Z_callVbp (M' := M_M_isJoin) 18 isM rfl l_M_217 C_M_isJoin (c_M_isJoin l p he fa li sl be ov av bl kw sm ma mf mw cj h k (by omega)) (emM ..) (Or.inl ⟨_, _, _, _, rfl, rfl⟩) rfl rfl rfl (Nat.le_of_ble_eq_true rfl) ⟨rfl, rfl, Nat.le_of_ble_eq_true rfl, Nat.le_of_ble_eq_true rfl⟩ ⟨Nat.zero_le _, Nat.zero_le _⟩ ?_
      refine Z_ifb_eq 19 rfl (tgt := 49) rfl (fun c31 => ?_) (fun c31 => ?_)
      · refine Z_iinc 31 rfl rfl (Nat.le_of_ble_eq_true rfl) (lv' := [(3, .int _), (0, .ref _), (1, .int _), (2, .int _)]) rfl ?_
        refine Z_goto 32 rfl (tgt := 18) rfl ?_
        refine Z_pick [0, 1, 2, 3] (lv' := [(0, .ref _), (1, .int _), (2, .int _), (3, .int _)]) rfl ?_
        have hz := fun q1 q2 q3 q4 q5 q6 q7 q8 => ih (k + 1) q1 q2 q3 q4 q5 q6 q7 q8 (by omega) (by omega) (by omega)
        first | (rw [e, cif_t ⟨c31, by omega⟩] at hz; exact hz _ _ _ _ _ _ _ _) | (rw [e, cif_f (fun z => c31 z.1)] at hz; exact hz _ _ _ _ _ _ _ _) | (rw [e, cif_f (fun z => by have := z.2; omega)] at hz; exact hz _ _ _ _ _ _ _ _)
      · refine Z_aload_n 20 rfl rfl rfl ?_
        refine Z_iload_n 21 rfl rfl rfl ?_
        refine Z_callVi (M' := M_M_joinOf) 22 isM rfl l_M_224 C_M_joinOf (c_M_joinOf l p he fa li sl be ov av bl kw sm ma mf mw cj h k c31) (emM ..) (Or.inl ⟨_, _, _, _, rfl, rfl⟩) rfl rfl rfl (Nat.le_of_ble_eq_true rfl) ⟨rfl, rfl, Nat.le_of_ble_eq_true rfl, Nat.le_of_ble_eq_true rfl⟩ ⟨Nat.zero_le _, Nat.zero_le _⟩ (fun out hq => ?_)
        obtain ⟨he', fa', li', sl', be', ov', av', bl', rfl⟩ := hq
        refine Z_mem (mgM ..) ?_
        refine Z_iload_n 23 rfl rfl rfl ?_
        refine Z_icmp_ne 24 rfl (tgt := 49) rfl (by omega) (by omega) (fun c40 => ?_) (fun c40 => ?_)
        · refine Z_iinc 31 rfl rfl (Nat.le_of_ble_eq_true rfl) (lv' := [(3, .int _), (0, .ref _), (1, .int _), (2, .int _)]) rfl ?_
          refine Z_goto 32 rfl (tgt := 18) rfl ?_
          refine Z_pick [0, 1, 2, 3] (lv' := [(0, .ref _), (1, .int _), (2, .int _), (3, .int _)]) rfl ?_
          have hz := fun q1 q2 q3 q4 q5 q6 q7 q8 => ih (k + 1) q1 q2 q3 q4 q5 q6 q7 q8 (by omega) (by omega) (by omega)
          first | (rw [e, cif_t ⟨c31, by omega⟩] at hz; exact hz _ _ _ _ _ _ _ _) | (rw [e, cif_f (fun z => c31 z.1)] at hz; exact hz _ _ _ _ _ _ _ _) | (rw [e, cif_f (fun z => by have := z.2; omega)] at hz; exact hz _ _ _ _ _ _ _ _)
        · refine Z_iload_n 25 rfl rfl rfl ?_
          refine Z_iconst 26 rfl ?_
          refine Z_iload_n 27 rfl rfl rfl ?_
          refine Z_ishl 28 rfl ?_
          refine Z_ior 29 rfl ?_
          refine Z_istore_n 30 rfl rfl (Nat.le_of_ble_eq_true rfl) (lv' := [(2, .int _), (0, .ref _), (1, .int _), (3, .int _)]) rfl ?_
          refine Z_iinc 31 rfl rfl (Nat.le_of_ble_eq_true rfl) (lv' := [(3, .int _), (2, .int _), (0, .ref _), (1, .int _)]) rfl ?_
          refine Z_goto 32 rfl (tgt := 18) rfl ?_
          refine Z_pick [0, 1, 2, 3] (lv' := [(0, .ref _), (1, .int _), (2, .int _), (3, .int _)]) rfl ?_
          have hz := fun q1 q2 q3 q4 q5 q6 q7 q8 => ih (k + 1) q1 q2 q3 q4 q5 q6 q7 q8 (by omega) (by omega) (by omega)
          first | (rw [e, cif_t ⟨c31, by omega⟩] at hz; exact hz _ _ _ _ _ _ _ _) | (rw [e, cif_f (fun z => c31 z.1)] at hz; exact hz _ _ _ _ _ _ _ _) | (rw [e, cif_f (fun z => by have := z.2; omega)] at hz; exact hz _ _ _ _ _ _ _ _)
theorem c_M_joins (h : MV p) (what : Int) (hw : inI what) : Con l M_M_joins R_M_joins 0 0 false [.ref 0, .int (iI what)] (eM p he fa li sl be ov av bl kw sm ma mf mw cj) (zAi (joinsF p.t what) (LJ p kw sm ma mf mw cj)) := by
  have h1 := h.1.1.1
  refine Con.of_Z (by decide) D_M_joins (Nat.le_of_ble_eq_true rfl) ?_
  refine Z_iload_n 0 rfl rfl rfl ?_
  refine Z_i2l 1 rfl (by omega) ?_
  refine Z_lconst 2 rfl ?_
  refine Z_ldc2 3 rfl k_M_108 (c := 2) rfl ?_
  refine Z_callSbp (M' := M_M_in) 4 [] rfl l_M_80 C_M_in (c_M_in l _ _ _ (by omega) (by omega) (by omega)) ⟨List.nodup_nil, zEL.n⟩ rfl rfl rfl (Nat.le_of_ble_eq_true rfl) ⟨rfl, rfl, Nat.le_of_ble_eq_true rfl, Nat.le_of_ble_eq_true rfl⟩ ⟨Nat.zero_le _, Nat.zero_le _⟩ ?_
  refine Z_ifb_ne 5 rfl (tgt := 14) rfl (fun c9 => ?_) (fun c9 => ?_)
  · refine Z_iconst 8 rfl ?_
    refine Z_istore_n 9 rfl rfl (Nat.le_of_ble_eq_true rfl) (lv' := [(2, .int _), (0, .ref _), (1, .int _)]) rfl ?_
    refine Z_iconst 10 rfl ?_
    refine Z_istore_n 11 rfl rfl (Nat.le_of_ble_eq_true rfl) (lv' := [(3, .int _), (2, .int _), (0, .ref _), (1, .int _)]) rfl ?_
    refine Z_pick [0, 1, 2, 3] (lv' := [(0, .ref _), (1, .int _), (2, .int _), (3, .int _)]) rfl ?_
    unfold joinsF
    rw [cif_t (by omega)]
    exact lp_M_joins l p kw sm ma mf mw cj h what (by omega) 13 0 he fa li sl be ov av bl (by omega) (by omega) (by omega)
  · refine Z_iconst 6 rfl ?_
    refine Z_iret 7 rfl rfl ⟨Nat.le_refl _, Nat.le_refl _⟩ ?_
    exact ⟨by unfold joinsF; (repeat (first | rw [cif_t (by first | assumption | omega)] | rw [cif_f (by first | assumption | omega)])), _, _, _, _, _, _, _, _, rfl⟩
end M3
