/-! the model: all angles, both sides -/
def DM (t : TT) (a sd a' k u : Int) : Prop := ∃ sd', At t a' sd' k u ∧ (a' < a ∨ (a' = a ∧ sd' < sd))
def DA (t : TT) (a sd : Int) (Q : Int → Int → Int → Prop) : Prop := ∀ a' k u, DM t a sd a' k u → Q a' k u
theorem DM_le {t : TT} {a sd a' k u : Int} (h : DM t a sd a' k u) : a' ≤ a := by
  obtain ⟨s, -, z⟩ := h
  omega
theorem DM_0 {t : TT} (h : TV t) {a' k u : Int} : ¬ DM t 0 0 a' k u := by
  rintro ⟨s, hA, z⟩
  have := At_in h hA
  omega
theorem DM_t {t : TT} (h : TV t) {a sd kk uu : Int} (hA : At t a sd kk uu) (a' k u : Int) : DM t a (sd + 1) a' k u ↔ (DM t a sd a' k u ∨ (a' = a ∧ k = kk ∧ u = uu)) := by
  constructor
  · rintro ⟨s, hB, z⟩
    by_cases y : a' < a ∨ (a' = a ∧ s < sd)
    · exact Or.inl ⟨s, hB, y⟩
    · have e1 : a' = a := by omega
      have e2 : s = sd := by omega
      rw [e1, e2] at hB
      exact Or.inr ⟨e1, At_un h hB hA⟩
  · rintro (⟨s, hB, z⟩ | ⟨e1, e2, e3⟩)
    · exact ⟨s, hB, by omega⟩
    · rw [e1, e2, e3]
      exact ⟨sd, hA, Or.inr ⟨rfl, by omega⟩⟩
theorem DM_f {t : TT} {a sd : Int} (hn : ¬ ∃ k u, At t a sd k u) (a' k u : Int) : DM t a (sd + 1) a' k u ↔ DM t a sd a' k u := by
  constructor
  · rintro ⟨s, hB, z⟩
    by_cases y : a' < a ∨ (a' = a ∧ s < sd)
    · exact ⟨s, hB, y⟩
    · have e1 : a' = a := by omega
      have e2 : s = sd := by omega
      rw [e1, e2] at hB
      exact absurd ⟨k, u, hB⟩ hn
  · rintro ⟨s, hB, z⟩
    exact ⟨s, hB, by omega⟩
theorem DM_s {t : TT} (h : TV t) {a sd : Int} (hs : 2 ≤ sd) (a' k u : Int) : DM t (a + 1) 0 a' k u ↔ DM t a sd a' k u := by
  constructor
  · rintro ⟨s, hB, z⟩
    have := At_in h hB
    exact ⟨s, hB, by omega⟩
  · rintro ⟨s, hB, z⟩
    exact ⟨s, hB, by omega⟩
theorem DM_e {t : TT} (h : TV t) {a : Int} (ha : tot t < a) (a' k u : Int) : DM t a 0 a' k u ↔ Vis t a' k u := by
  rw [Vis_At h]
  constructor
  · rintro ⟨s, hB, z⟩
    exact ⟨s, hB⟩
  · rintro ⟨s, hB⟩
    have := At_in h hB
    exact ⟨s, hB, by omega⟩
theorem DA_0 {t : TT} (h : TV t) (Q : Int → Int → Int → Prop) : DA t 0 0 Q := fun _ _ _ z => absurd z (DM_0 h)
theorem DA_t {t : TT} (h : TV t) {a sd kk uu : Int} (hA : At t a sd kk uu) (Q : Int → Int → Int → Prop) : DA t a (sd + 1) Q ↔ (DA t a sd Q ∧ Q a kk uu) := by
  constructor
  · intro z
    exact ⟨fun a' k u y => z a' k u ((DM_t h hA a' k u).mpr (Or.inl y)), z a kk uu ((DM_t h hA a kk uu).mpr (Or.inr ⟨rfl, rfl, rfl⟩))⟩
  · rintro ⟨z1, z2⟩ a' k u y
    rcases (DM_t h hA a' k u).mp y with y | ⟨e1, e2, e3⟩
    · exact z1 a' k u y
    · rw [e1, e2, e3]
      exact z2
theorem DA_f {t : TT} {a sd : Int} (hn : ¬ ∃ k u, At t a sd k u) (Q : Int → Int → Int → Prop) : DA t a (sd + 1) Q ↔ DA t a sd Q :=
  ⟨fun z a' k u y => z a' k u ((DM_f hn a' k u).mpr y), fun z a' k u y => z a' k u ((DM_f hn a' k u).mp y)⟩
theorem DA_s {t : TT} (h : TV t) {a sd : Int} (hs : 2 ≤ sd) (Q : Int → Int → Int → Prop) : DA t (a + 1) 0 Q ↔ DA t a sd Q :=
  ⟨fun z a' k u y => z a' k u ((DM_s h hs a' k u).mpr y), fun z a' k u y => z a' k u ((DM_s h hs a' k u).mp y)⟩
theorem DA_e {t : TT} (h : TV t) {a : Int} (ha : tot t < a) (Q : Int → Int → Int → Prop) : DA t a 0 Q ↔ ∀ a' k u, Vis t a' k u → Q a' k u :=
  ⟨fun z a' k u y => z a' k u ((DM_e h ha a' k u).mpr y), fun z a' k u y => z a' k u ((DM_e h ha a' k u).mp y)⟩
theorem TV_tot {t : TT} (h : TV t) : 0 ≤ tot t ∧ tot t ≤ 360 := by
  have b := bg_mono h.1 (Int.le_refl 0) h.1.1.1
  rw [bg_0] at b
  exact ⟨b, h.2.1⟩
theorem sc_pos {c x : Int} (hc : 1 ≤ c) : 0 < c * x ↔ 0 < x := by
  constructor
  · intro z
    rcases Int.lt_or_le 0 x with y | y
    · exact y
    · have := Int.mul_nonpos_of_nonneg_of_nonpos (show 0 ≤ c by omega) y
      omega
  · intro z
    exact Int.mul_pos (by omega) z
theorem lstA_c {P Q : Int → Prop} (h : ∀ x, P x ↔ Q x) : lstA P = lstA Q := congrArg lstA (funext fun x => propext (h x))
theorem gstA_c {P Q : Int → Prop} (h : ∀ x, P x ↔ Q x) : gstA P = gstA Q := congrArg gstA (funext fun x => propext (h x))
theorem ja_iff {W O x : Int} (hO : 0 < O) : (-W) / O + 1 ≤ x ↔ 0 < W + O * x := by
  have h1 : (-W) / O < x ↔ -W < x * O := Int.ediv_lt_iff_lt_mul hO
  rw [Int.mul_comm x O] at h1
  omega
theorem ja_bd {W O : Int} (hO : 0 < O) (hW : -4900000000000000000 ≤ W ∧ W ≤ 4900000000000000000) : -4900000000000000000 ≤ (-W) / O + 1 ∧ (-W) / O + 1 ≤ 4900000000000000001 := by
  constructor
  · rcases Int.lt_or_le ((-W) / O + 1) (-4900000000000000000) with y | y
    · have h1 := (ja_iff (W := W) (x := -4900000000000000000) hO).mp (by omega)
      have := Int.mul_le_mul_of_nonneg_right (show 1 ≤ O by omega) (show (0 : Int) ≤ 4900000000000000000 by omega)
      omega
    · exact y
  · refine (ja_iff hO).mpr ?_
    have := Int.mul_le_mul_of_nonneg_right (show 1 ≤ O by omega) (show (0 : Int) ≤ 4900000000000000001 by omega)
    omega
/-- what the force, the curve is without what is sought -/
def lvV (S : Int → Int) (b : Int) (s : SS) : Int := if b = 0 then spr S s + ine S s else lf s + 3249 * s.2.2.2.1
def laP (t : TT) (S : Int → Int) (b x : Int) : Prop := ((if b = 0 then 0 else 1) ≤ x ∧ x ≤ (if b = 0 then 9999 else 999)) ∧ ∀ a k u, Vis t a k u → 0 < lvV S b (pl t k u) + (pl t k u).1 * x
theorem laP_rad (t : TT) (S : Int → Int) (x : Int) : laP t S 1 x ↔ radP t x := ⟨fun z => ⟨z.1.1, z.1.2, z.2⟩, fun z => ⟨⟨z.1, z.2.1⟩, z.2.2⟩⟩
theorem laP_pre (t : TT) (S : Int → Int) (x : Int) : laP t S 0 x ↔ preP t S x := ⟨fun z => ⟨z.1.1, z.1.2, z.2⟩, fun z => ⟨⟨z.1, z.2.1⟩, z.2.2⟩⟩
theorem gs_bd {S : Int → Int} (hS : SB S) {L B st sp : Int} (hL : -7781996851200000 ≤ L ∧ L ≤ 7781996851200000) (hB : -69284160000 ≤ B ∧ B ≤ 69284160000) (h1 : 0 ≤ st ∧ st ≤ 99) (h2 : 0 ≤ sp ∧ sp ≤ 30) : -4900000000000000000 ≤ st * L + 3249 * S 1 * sp * sp * B ∧ st * L + 3249 * S 1 * sp * sp * B ≤ 4900000000000000000 := by
  unfold SB at hS
  have a2 := mul_ab (x := st) (y := L) (A := 99) (B := 7781996851200000) (by omega) hL
  have a5 := mul_ab (x := 3249 * S 1) (y := sp) (A := 64980) (B := 30) (by omega) (by omega)
  have a6 := mul_ab (x := 3249 * S 1 * sp) (y := sp) (A := 1949400) (B := 30) (by omega) (by omega)
  have a7 := mul_ab (x := 3249 * S 1 * sp * sp) (y := B) (A := 58482000) (B := 69284160000) (by omega) hB
  omega
theorem gs_c {S : Int → Int} {s : SS} {c L B O : Int} (h1 : L = c * lf s) (h3 : B = c * s.2.2.2.1) (h4 : O = c * s.1) : S 3 * O + S 2 * L + 3249 * S 1 * S 4 * S 4 * B - S 3 * O = c * lvV S 0 s ∧ S 0 * O + L + 3249 * B - S 0 * O = c * lvV S 1 s := by
  rw [h1, h3, h4]
  unfold lvV spr ine
  rw [if_pos rfl, if_neg (by omega)]
  constructor <;> grind
section M4
variable (l : Launch) (p : MP) (av bl : Int) (kw sm : Int → Int) (ma mf mw : Int) (cj : TT)
theorem lp_M_leastAbove (h : MV p) (b : Int) (hb : b = 0 ∨ b = 1) : ∀ (d : Nat) (a sd m he fa li sl be ov : Int), (0 ≤ a ∧ a ≤ tot p.t) → (0 ≤ sd ∧ sd ≤ 2) → ((if b = 0 then 0 else 1) ≤ m ∧ m ≤ 4900000000000000001) → (∀ x, (if b = 0 then 0 else 1) ≤ x → (m ≤ x ↔ DA p.t a sd (fun _ k u => 0 < lvV p.s b (pl p.t k u) + (pl p.t k u).1 * x))) → 3 * (tot p.t - a) + (2 - sd) < d → Z (l, M_M_leastAbove, R_M_leastAbove, (0, 0), false, zAi (lstA (laP p.t p.s b)) (LM p av bl kw sm ma mf mw cj)) 0 0 (eM p he fa li sl be ov av bl kw sm ma mf mw cj) 25 [(0, .ref 0), (1, .int (iI b)), (2, .long (lI m)), (4, .int (iI a)), (5, .int (iI sd))] [] := by
  have ht := TV_tot h.1
  have hS := h.2.1
  unfold SB at hS
  intro d
  induction d with
  | zero => intro a sd m he fa li sl be ov h1 h2 h3 h4 h5; omega
  | succ d ih =>
    intro a sd m he fa li sl be ov h1 h2 h3 h4 h5
    have h3' : 0 ≤ m := by
      have := h3.1
      split at this <;> omega
    refine Z_iload 14 rfl rfl ?_
    refine Z_iconst 15 rfl ?_
    refine Z_icmp_ge 16 rfl (tgt := 121) rfl (by omega) (by omega) (fun c28 => ?_) (fun c28 => ?_)
    · have ec : ∀ x, (if b = 0 then 0 else 1) ≤ x → (m ≤ x ↔ DA p.t (a + 1) 0 (fun _ k u => 0 < lvV p.s b (pl p.t k u) + (pl p.t k u).1 * x)) := fun x hx => by rw [h4 x hx, DA_s h.1 (by omega)]
      refine Z_iinc 67 rfl rfl (Nat.le_of_ble_eq_true rfl) (lv' := [(4, .int _), (0, .ref _), (1, .int _), (2, .long _), (5, .int _)]) rfl ?_
      refine Z_goto 68 rfl (tgt := 13) rfl ?_
      refine Z_iload 8 rfl rfl ?_
      refine Z_aload_n 9 rfl rfl rfl ?_
      refine Z_callVip (M' := M_M_total) 10 isM rfl l_M_88 C_M_total (c_M_total l p he fa li sl be ov av bl kw sm ma mf mw cj h.1.1) (emM ..) (Or.inl ⟨_, _, _, _, rfl, rfl⟩) rfl rfl rfl (Nat.le_of_ble_eq_true rfl) ⟨rfl, rfl, Nat.le_of_ble_eq_true rfl, Nat.le_of_ble_eq_true rfl⟩ ⟨Nat.zero_le _, Nat.zero_le _⟩ ?_
      refine Z_icmp_gt 11 rfl (tgt := 127) rfl (by omega) (by omega) (fun c19 => ?_) (fun c19 => ?_)
      · have ef : ∀ x, (if b = 0 then 0 else 1) ≤ x → (m ≤ x ↔ ∀ a k u, Vis p.t a k u → 0 < lvV p.s b (pl p.t k u) + (pl p.t k u).1 * x) := fun x hx => by rw [ec x hx, DA_e h.1 (by omega)]
        refine Z_lload_n 69 rfl rfl rfl ?_
        refine Z_iload_n 70 rfl rfl rfl ?_
        refine Z_if_eq 71 rfl (tgt := 138) rfl (by omega) (fun c129 => ?_) (fun c129 => ?_)
        · refine Z_ldc2 74 rfl k_M_259 (c := 9999) rfl ?_
          refine Z_lc_le 75 rfl rfl (tgt := 150) rfl (by omega) (by omega) (fun c141 => ?_) (fun c141 => ?_)
          · refine Z_lload_n 79 rfl rfl rfl ?_
            refine Z_l2i 80 rfl ?_
            refine Z_iret 81 rfl rfl ⟨Nat.le_refl _, Nat.le_refl _⟩ ?_
            exact ⟨by
              rw [lstA_eq (v := if (if b = 0 then 9999 else 999) < m then -5 else m) ?_]
              · first | rw [if_pos (by first | (rw [if_pos (by omega)]; omega) | (rw [if_neg (by omega)]; omega))] | rw [if_neg (by first | (rw [if_pos (by omega)]; omega) | (rw [if_neg (by omega)]; omega))]
              · by_cases z : (if b = 0 then 9999 else 999) < m
                · rw [if_pos z]
                  exact Or.inr ⟨rfl, fun x hx => by have := (ef x hx.1.1).mpr hx.2; have := hx.1.2; omega⟩
                · rw [if_neg z]
                  exact Or.inl ⟨⟨⟨h3.1, by omega⟩, (ef m h3.1).mp (Int.le_refl m)⟩, fun x hx => (ef x hx.1.1).mpr hx.2⟩, _, _, _, _, _, _, rfl⟩
          · refine Z_bipush 77 rfl rfl ?_
            refine Z_goto 78 rfl (tgt := 152) rfl ?_
            refine Z_iret 81 rfl rfl ⟨Nat.le_refl _, Nat.le_refl _⟩ ?_
            exact ⟨by
              rw [lstA_eq (v := if (if b = 0 then 9999 else 999) < m then -5 else m) ?_]
              · first | rw [if_pos (by first | (rw [if_pos (by omega)]; omega) | (rw [if_neg (by omega)]; omega))] | rw [if_neg (by first | (rw [if_pos (by omega)]; omega) | (rw [if_neg (by omega)]; omega))]
              · by_cases z : (if b = 0 then 9999 else 999) < m
                · rw [if_pos z]
                  exact Or.inr ⟨rfl, fun x hx => by have := (ef x hx.1.1).mpr hx.2; have := hx.1.2; omega⟩
                · rw [if_neg z]
                  exact Or.inl ⟨⟨⟨h3.1, by omega⟩, (ef m h3.1).mp (Int.le_refl m)⟩, fun x hx => (ef x hx.1.1).mpr hx.2⟩, _, _, _, _, _, _, rfl⟩
        · refine Z_ldc2 72 rfl k_M_257 (c := 999) rfl ?_
          refine Z_goto 73 rfl (tgt := 141) rfl ?_
          refine Z_lc_le 75 rfl rfl (tgt := 150) rfl (by omega) (by omega) (fun c141 => ?_) (fun c141 => ?_)
          · refine Z_lload_n 79 rfl rfl rfl ?_
            refine Z_l2i 80 rfl ?_
            refine Z_iret 81 rfl rfl ⟨Nat.le_refl _, Nat.le_refl _⟩ ?_
            exact ⟨by
              rw [lstA_eq (v := if (if b = 0 then 9999 else 999) < m then -5 else m) ?_]
              · first | rw [if_pos (by first | (rw [if_pos (by omega)]; omega) | (rw [if_neg (by omega)]; omega))] | rw [if_neg (by first | (rw [if_pos (by omega)]; omega) | (rw [if_neg (by omega)]; omega))]
              · by_cases z : (if b = 0 then 9999 else 999) < m
                · rw [if_pos z]
                  exact Or.inr ⟨rfl, fun x hx => by have := (ef x hx.1.1).mpr hx.2; have := hx.1.2; omega⟩
                · rw [if_neg z]
                  exact Or.inl ⟨⟨⟨h3.1, by omega⟩, (ef m h3.1).mp (Int.le_refl m)⟩, fun x hx => (ef x hx.1.1).mpr hx.2⟩, _, _, _, _, _, _, rfl⟩
          · refine Z_bipush 77 rfl rfl ?_
            refine Z_goto 78 rfl (tgt := 152) rfl ?_
            refine Z_iret 81 rfl rfl ⟨Nat.le_refl _, Nat.le_refl _⟩ ?_
            exact ⟨by
              rw [lstA_eq (v := if (if b = 0 then 9999 else 999) < m then -5 else m) ?_]
              · first | rw [if_pos (by first | (rw [if_pos (by omega)]; omega) | (rw [if_neg (by omega)]; omega))] | rw [if_neg (by first | (rw [if_pos (by omega)]; omega) | (rw [if_neg (by omega)]; omega))]
              · by_cases z : (if b = 0 then 9999 else 999) < m
                · rw [if_pos z]
                  exact Or.inr ⟨rfl, fun x hx => by have := (ef x hx.1.1).mpr hx.2; have := hx.1.2; omega⟩
                · rw [if_neg z]
                  exact Or.inl ⟨⟨⟨h3.1, by omega⟩, (ef m h3.1).mp (Int.le_refl m)⟩, fun x hx => (ef x hx.1.1).mpr hx.2⟩, _, _, _, _, _, _, rfl⟩
      · refine Z_iconst 12 rfl ?_
        refine Z_istore 13 rfl (Nat.le_of_ble_eq_true rfl) (lv' := [(5, .int _), (4, .int _), (0, .ref _), (1, .int _), (2, .long _)]) rfl ?_
        refine Z_pick [0, 1, 2, 4, 5] (lv' := [(0, .ref _), (1, .int _), (2, .long _), (4, .int _), (5, .int _)]) rfl ?_
        first
          | exact ih (a + 1) 0 m _ _ _ _ _ _ (by omega) (by omega) h3 ec (by omega)
          | exact ih a (sd + 1) m _ _ _ _ _ _ h1 (by omega) h3 (fun x hx => by rw [h4 x hx, DA_f c39]) (by omega)
          | exact ih a (sd + 1) _ _ _ _ _ _ _ h1 (by omega) (by split <;> omega) (fun x hx => by
              rw [DA_t h.1 hA, ← h4 x hx]
              have q : 0 < cc * lvV p.s b (pl p.t kk uu) + mpO p.t kk * x ↔ 0 < lvV p.s b (pl p.t kk uu) + (pl p.t kk uu).1 * x := by
                rw [k4, show cc * lvV p.s b (pl p.t kk uu) + cc * (pl p.t kk uu).1 * x = cc * (lvV p.s b (pl p.t kk uu) + (pl p.t kk uu).1 * x) by grind]
                exact sc_pos k0
              rw [← q, ← ja_iff (show 0 < mpO p.t kk by omega)]
              split <;> omega) (by omega)
    · refine Z_aload_n 17 rfl rfl rfl ?_
      refine Z_iload 18 rfl rfl ?_
      refine Z_iload 19 rfl rfl ?_
      refine Z_callVb (M' := M_M_looks) 20 isM rfl l_M_202 C_M_looks (c_M_looks l p he fa li sl be ov av bl kw sm ma mf mw cj h a sd (by omega) (by omega)) (emM ..) (Or.inl ⟨_, _, _, _, rfl, rfl⟩) rfl rfl rfl (Nat.le_of_ble_eq_true rfl) ⟨rfl, rfl, Nat.le_of_ble_eq_true rfl, Nat.le_of_ble_eq_true rfl⟩ ⟨Nat.zero_le _, Nat.zero_le _⟩ (fun out hq => ?_)
      obtain ⟨he', fa', li', sl', be', ov', rfl, hL⟩ := hq
      refine Z_mem (mgM ..) ?_
      refine Z_ifb_ne 21 rfl (tgt := 45) rfl (fun c39 => ?_) (fun c39 => ?_)
      · obtain ⟨kk, uu, hA⟩ := c39
        obtain ⟨e1, e2, e3, e4, e5, e6⟩ := hL kk uu hA
        rw [e1, e2, e3, e4, e5, e6]
        have hI := At_in h.1 hA
        have hb0 := mp_bd h.1 ⟨hI.1.1, hI.1.2.1⟩ hI.2.1
        obtain ⟨cc, k0, k1, k2, k3, k4⟩ := mp_x h.1 hA
        have hb1 := (pl_bd h.1 ⟨hI.1.1, hI.1.2.1⟩ hI.2.1).1
        obtain ⟨g0, g1⟩ := gs_c (S := p.s) k1 k3 k4
        have hg := gs_bd h.2.1 hb0.1 hb0.2.2.1 (st := p.s 2) (sp := p.s 4) (by omega) (by omega)
        refine Z_iload_n 23 rfl rfl rfl ?_
        refine Z_if_eq 24 rfl (tgt := 69) rfl (by omega) (fun c46 => ?_) (fun c46 => ?_)
        · refine Z_aload_n 37 rfl rfl rfl ?_
          refine Z_aload_n 38 rfl rfl rfl ?_
          refine Z_get 39 rfl f_M_21 rfl rfl ?_
          refine Z_iconst 40 rfl ?_
          refine Z_ia 41 rfl rfl (by omega) (by decide) ?_
          refine Z_aload_n 42 rfl rfl rfl ?_
          refine Z_get 43 rfl f_M_21 rfl rfl ?_
          refine Z_iconst 44 rfl ?_
          refine Z_ia 45 rfl rfl (by omega) (by decide) ?_
          refine Z_callVlp (M' := M_M_forceNow) 46 isM rfl l_M_241 C_M_forceNow (c_M_forceNow l p kk uu (mpL p.t kk uu) (mpS p.t kk uu) (mpB p.t kk uu) (mpO p.t kk) av bl kw sm ma mf mw cj h.2.1 (p.s 2) (p.s 4) (by omega) (by omega)) (emM ..) (Or.inl ⟨_, _, _, _, rfl, rfl⟩) rfl rfl rfl (Nat.le_of_ble_eq_true rfl) ⟨rfl, rfl, Nat.le_of_ble_eq_true rfl, Nat.le_of_ble_eq_true rfl⟩ ⟨Nat.zero_le _, Nat.zero_le _⟩ ?_
          refine Z_aload_n 47 rfl rfl rfl ?_
          refine Z_get 48 rfl f_M_21 rfl rfl ?_
          refine Z_iconst 49 rfl ?_
          refine Z_ia 50 rfl rfl (by omega) (by decide) ?_
          refine Z_i2l 51 rfl (by omega) ?_
          refine Z_aload_n 52 rfl rfl rfl ?_
          refine Z_get 53 rfl f_M_179 rfl rfl ?_
          refine Z_lmul 54 rfl ?_
          refine Z_lsub 55 rfl ?_
          have hW : -4900000000000000000 ≤ cc * lvV p.s b (pl p.t kk uu) ∧ cc * lvV p.s b (pl p.t kk uu) ≤ 4900000000000000000 := by
            first | (rw [show b = 0 by omega]; omega) | (rw [show b = 1 by omega]; omega)
          refine Z_cl (show _ = cc * lvV p.s b (pl p.t kk uu) by first | (rw [show b = 0 by omega]; exact g0) | (rw [show b = 1 by omega]; exact g1)) ?_
          refine Z_lstore 56 rfl (Nat.le_of_ble_eq_true rfl) (lv' := [(6, .long _), (0, .ref _), (1, .int _), (2, .long _), (4, .int _), (5, .int _)]) rfl ?_
          refine Z_lload_n 57 rfl rfl rfl ?_
          refine Z_lload 58 rfl rfl ?_
          refine Z_lneg 59 rfl ?_
          refine Z_aload_n 60 rfl rfl rfl ?_
          refine Z_get 61 rfl f_M_179 rfl rfl ?_
          refine Z_callSlp (M' := M_M_justAbove) 62 [] rfl l_M_251 C_M_justAbove (c_M_justAbove l (-(cc * lvV p.s b (pl p.t kk uu))) (mpO p.t kk) (by omega) (by omega)) ⟨List.nodup_nil, zEL.n⟩ rfl rfl rfl (Nat.le_of_ble_eq_true rfl) ⟨rfl, rfl, Nat.le_of_ble_eq_true rfl, Nat.le_of_ble_eq_true rfl⟩ ⟨Nat.zero_le _, Nat.zero_le _⟩ ?_
          have hj := ja_bd (O := mpO p.t kk) (by omega) hW
          refine Z_maxL 63 rfl l_M_254 b_st_maxL b_ini_Math b_cd_maxL (by omega) (by omega) (Nat.le_of_ble_eq_true rfl) ⟨Nat.le_of_ble_eq_true rfl, Nat.zero_le _, Nat.zero_le _⟩ ?_
          refine Z_lstore_n 64 rfl rfl (Nat.le_of_ble_eq_true rfl) (lv' := [(2, .long _), (6, .long _), (0, .ref _), (1, .int _), (4, .int _), (5, .int _)]) rfl ?_
          refine Z_iinc 65 rfl rfl (Nat.le_of_ble_eq_true rfl) (lv' := [(5, .int _), (2, .long _), (6, .long _), (0, .ref _), (1, .int _), (4, .int _)]) rfl ?_
          refine Z_goto 66 rfl (tgt := 25) rfl ?_
          refine Z_pick [0, 1, 2, 4, 5] (lv' := [(0, .ref _), (1, .int _), (2, .long _), (4, .int _), (5, .int _)]) rfl ?_
          first
            | exact ih (a + 1) 0 m _ _ _ _ _ _ (by omega) (by omega) h3 ec (by omega)
            | exact ih a (sd + 1) m _ _ _ _ _ _ h1 (by omega) h3 (fun x hx => by rw [h4 x hx, DA_f c39]) (by omega)
            | exact ih a (sd + 1) _ _ _ _ _ _ _ h1 (by omega) (by split <;> omega) (fun x hx => by
                rw [DA_t h.1 hA, ← h4 x hx]
                have q : 0 < cc * lvV p.s b (pl p.t kk uu) + mpO p.t kk * x ↔ 0 < lvV p.s b (pl p.t kk uu) + (pl p.t kk uu).1 * x := by
                  rw [k4, show cc * lvV p.s b (pl p.t kk uu) + cc * (pl p.t kk uu).1 * x = cc * (lvV p.s b (pl p.t kk uu) + (pl p.t kk uu).1 * x) by grind]
                  exact sc_pos k0
                rw [← q, ← ja_iff (show 0 < mpO p.t kk by omega)]
                split <;> omega) (by omega)
        · refine Z_aload_n 25 rfl rfl rfl ?_
          refine Z_callVlp (M' := M_M_curveNow) 26 isM rfl l_M_235 C_M_curveNow (c_M_curveNow l p kk uu (mpL p.t kk uu) (mpS p.t kk uu) (mpB p.t kk uu) (mpO p.t kk) av bl kw sm ma mf mw cj h.2.1) (emM ..) (Or.inl ⟨_, _, _, _, rfl, rfl⟩) rfl rfl rfl (Nat.le_of_ble_eq_true rfl) ⟨rfl, rfl, Nat.le_of_ble_eq_true rfl, Nat.le_of_ble_eq_true rfl⟩ ⟨Nat.zero_le _, Nat.zero_le _⟩ ?_
          refine Z_aload_n 27 rfl rfl rfl ?_
          refine Z_get 28 rfl f_M_21 rfl rfl ?_
          refine Z_iconst 29 rfl ?_
          refine Z_ia 30 rfl rfl (by omega) (by decide) ?_
          refine Z_i2l 31 rfl (by omega) ?_
          refine Z_aload_n 32 rfl rfl rfl ?_
          refine Z_get 33 rfl f_M_179 rfl rfl ?_
          refine Z_lmul 34 rfl ?_
          refine Z_lsub 35 rfl ?_
          refine Z_goto 36 rfl (tgt := 98) rfl ?_
          have hW : -4900000000000000000 ≤ cc * lvV p.s b (pl p.t kk uu) ∧ cc * lvV p.s b (pl p.t kk uu) ≤ 4900000000000000000 := by
            first | (rw [show b = 0 by omega]; omega) | (rw [show b = 1 by omega]; omega)
          refine Z_cl (show _ = cc * lvV p.s b (pl p.t kk uu) by first | (rw [show b = 0 by omega]; exact g0) | (rw [show b = 1 by omega]; exact g1)) ?_
          refine Z_lstore 56 rfl (Nat.le_of_ble_eq_true rfl) (lv' := [(6, .long _), (0, .ref _), (1, .int _), (2, .long _), (4, .int _), (5, .int _)]) rfl ?_
          refine Z_lload_n 57 rfl rfl rfl ?_
          refine Z_lload 58 rfl rfl ?_
          refine Z_lneg 59 rfl ?_
          refine Z_aload_n 60 rfl rfl rfl ?_
          refine Z_get 61 rfl f_M_179 rfl rfl ?_
          refine Z_callSlp (M' := M_M_justAbove) 62 [] rfl l_M_251 C_M_justAbove (c_M_justAbove l (-(cc * lvV p.s b (pl p.t kk uu))) (mpO p.t kk) (by omega) (by omega)) ⟨List.nodup_nil, zEL.n⟩ rfl rfl rfl (Nat.le_of_ble_eq_true rfl) ⟨rfl, rfl, Nat.le_of_ble_eq_true rfl, Nat.le_of_ble_eq_true rfl⟩ ⟨Nat.zero_le _, Nat.zero_le _⟩ ?_
          have hj := ja_bd (O := mpO p.t kk) (by omega) hW
          refine Z_maxL 63 rfl l_M_254 b_st_maxL b_ini_Math b_cd_maxL (by omega) (by omega) (Nat.le_of_ble_eq_true rfl) ⟨Nat.le_of_ble_eq_true rfl, Nat.zero_le _, Nat.zero_le _⟩ ?_
          refine Z_lstore_n 64 rfl rfl (Nat.le_of_ble_eq_true rfl) (lv' := [(2, .long _), (6, .long _), (0, .ref _), (1, .int _), (4, .int _), (5, .int _)]) rfl ?_
          refine Z_iinc 65 rfl rfl (Nat.le_of_ble_eq_true rfl) (lv' := [(5, .int _), (2, .long _), (6, .long _), (0, .ref _), (1, .int _), (4, .int _)]) rfl ?_
          refine Z_goto 66 rfl (tgt := 25) rfl ?_
          refine Z_pick [0, 1, 2, 4, 5] (lv' := [(0, .ref _), (1, .int _), (2, .long _), (4, .int _), (5, .int _)]) rfl ?_
          first
            | exact ih (a + 1) 0 m _ _ _ _ _ _ (by omega) (by omega) h3 ec (by omega)
            | exact ih a (sd + 1) m _ _ _ _ _ _ h1 (by omega) h3 (fun x hx => by rw [h4 x hx, DA_f c39]) (by omega)
            | exact ih a (sd + 1) _ _ _ _ _ _ _ h1 (by omega) (by split <;> omega) (fun x hx => by
                rw [DA_t h.1 hA, ← h4 x hx]
                have q : 0 < cc * lvV p.s b (pl p.t kk uu) + mpO p.t kk * x ↔ 0 < lvV p.s b (pl p.t kk uu) + (pl p.t kk uu).1 * x := by
                  rw [k4, show cc * lvV p.s b (pl p.t kk uu) + cc * (pl p.t kk uu).1 * x = cc * (lvV p.s b (pl p.t kk uu) + (pl p.t kk uu).1 * x) by grind]
                  exact sc_pos k0
                rw [← q, ← ja_iff (show 0 < mpO p.t kk by omega)]
                split <;> omega) (by omega)
      · refine Z_goto 22 rfl (tgt := 115) rfl ?_
        refine Z_iinc 65 rfl rfl (Nat.le_of_ble_eq_true rfl) (lv' := [(5, .int _), (0, .ref _), (1, .int _), (2, .long _), (4, .int _)]) rfl ?_
        refine Z_goto 66 rfl (tgt := 25) rfl ?_
        refine Z_pick [0, 1, 2, 4, 5] (lv' := [(0, .ref _), (1, .int _), (2, .long _), (4, .int _), (5, .int _)]) rfl ?_
        first
          | exact ih (a + 1) 0 m _ _ _ _ _ _ (by omega) (by omega) h3 ec (by omega)
          | exact ih a (sd + 1) m _ _ _ _ _ _ h1 (by omega) h3 (fun x hx => by rw [h4 x hx, DA_f c39]) (by omega)
          | exact ih a (sd + 1) _ _ _ _ _ _ _ h1 (by omega) (by split <;> omega) (fun x hx => by
              rw [DA_t h.1 hA, ← h4 x hx]
              have q : 0 < cc * lvV p.s b (pl p.t kk uu) + mpO p.t kk * x ↔ 0 < lvV p.s b (pl p.t kk uu) + (pl p.t kk uu).1 * x := by
                rw [k4, show cc * lvV p.s b (pl p.t kk uu) + cc * (pl p.t kk uu).1 * x = cc * (lvV p.s b (pl p.t kk uu) + (pl p.t kk uu).1 * x) by grind]
                exact sc_pos k0
              rw [← q, ← ja_iff (show 0 < mpO p.t kk by omega)]
              split <;> omega) (by omega)
theorem c_M_leastAbove (h : MV p) (b : Int) (hb : b = 0 ∨ b = 1) (he fa li sl be ov : Int) : Con l M_M_leastAbove R_M_leastAbove 0 0 false [.ref 0, .int (iI b)] (eM p he fa li sl be ov av bl kw sm ma mf mw cj) (zAi (lstA (laP p.t p.s b)) (LM p av bl kw sm ma mf mw cj)) := by
  have ht := TV_tot h.1
  refine Con.of_Z (by decide) D_M_leastAbove (Nat.le_of_ble_eq_true rfl) ?_
  refine Z_iload_n 0 rfl rfl rfl ?_
  refine Z_if_eq 1 rfl (tgt := 8) rfl (by omega) (fun c1 => ?_) (fun c1 => ?_)
  · refine Z_lconst 4 rfl ?_
    refine Z_cl (show _ = (if b = 0 then 0 else 1) by first | (rw [if_pos (by omega)] <;> rfl) | (rw [if_neg (by omega)] <;> rfl)) ?_
    refine Z_lstore_n 5 rfl rfl (Nat.le_of_ble_eq_true rfl) (lv' := [(2, .long _), (0, .ref _), (1, .int _)]) rfl ?_
    refine Z_iconst 6 rfl ?_
    refine Z_istore 7 rfl (Nat.le_of_ble_eq_true rfl) (lv' := [(4, .int _), (2, .long _), (0, .ref _), (1, .int _)]) rfl ?_
    refine Z_iload 8 rfl rfl ?_
    refine Z_aload_n 9 rfl rfl rfl ?_
    refine Z_callVip (M' := M_M_total) 10 isM rfl l_M_88 C_M_total (c_M_total l p he fa li sl be ov av bl kw sm ma mf mw cj h.1.1) (emM ..) (Or.inl ⟨_, _, _, _, rfl, rfl⟩) rfl rfl rfl (Nat.le_of_ble_eq_true rfl) ⟨rfl, rfl, Nat.le_of_ble_eq_true rfl, Nat.le_of_ble_eq_true rfl⟩ ⟨Nat.zero_le _, Nat.zero_le _⟩ ?_
    refine Z_icmp_gt 11 rfl (tgt := 127) rfl (by omega) (by omega) (fun c19 => ?_) (fun c19 => ?_)
    · exfalso; omega
    refine Z_iconst 12 rfl ?_
    refine Z_istore 13 rfl (Nat.le_of_ble_eq_true rfl) (lv' := [(5, .int _), (4, .int _), (2, .long _), (0, .ref _), (1, .int _)]) rfl ?_
    refine Z_pick [0, 1, 2, 4, 5] (lv' := [(0, .ref _), (1, .int _), (2, .long _), (4, .int _), (5, .int _)]) rfl ?_
    exact lp_M_leastAbove l p av bl kw sm ma mf mw cj h b hb 1083 0 0 _ _ _ _ _ _ _ (by omega) (by omega) ⟨Int.le_refl _, by split <;> omega⟩ (fun x hx => ⟨fun _ => DA_0 h.1 _, fun _ => hx⟩) (by omega)
  · refine Z_lconst 2 rfl ?_
    refine Z_goto 3 rfl (tgt := 9) rfl ?_
    refine Z_cl (show _ = (if b = 0 then 0 else 1) by first | (rw [if_pos (by omega)] <;> rfl) | (rw [if_neg (by omega)] <;> rfl)) ?_
    refine Z_lstore_n 5 rfl rfl (Nat.le_of_ble_eq_true rfl) (lv' := [(2, .long _), (0, .ref _), (1, .int _)]) rfl ?_
    refine Z_iconst 6 rfl ?_
    refine Z_istore 7 rfl (Nat.le_of_ble_eq_true rfl) (lv' := [(4, .int _), (2, .long _), (0, .ref _), (1, .int _)]) rfl ?_
    refine Z_iload 8 rfl rfl ?_
    refine Z_aload_n 9 rfl rfl rfl ?_
    refine Z_callVip (M' := M_M_total) 10 isM rfl l_M_88 C_M_total (c_M_total l p he fa li sl be ov av bl kw sm ma mf mw cj h.1.1) (emM ..) (Or.inl ⟨_, _, _, _, rfl, rfl⟩) rfl rfl rfl (Nat.le_of_ble_eq_true rfl) ⟨rfl, rfl, Nat.le_of_ble_eq_true rfl, Nat.le_of_ble_eq_true rfl⟩ ⟨Nat.zero_le _, Nat.zero_le _⟩ ?_
    refine Z_icmp_gt 11 rfl (tgt := 127) rfl (by omega) (by omega) (fun c19 => ?_) (fun c19 => ?_)
    · exfalso; omega
    refine Z_iconst 12 rfl ?_
    refine Z_istore 13 rfl (Nat.le_of_ble_eq_true rfl) (lv' := [(5, .int _), (4, .int _), (2, .long _), (0, .ref _), (1, .int _)]) rfl ?_
    refine Z_pick [0, 1, 2, 4, 5] (lv' := [(0, .ref _), (1, .int _), (2, .long _), (4, .int _), (5, .int _)]) rfl ?_
    exact lp_M_leastAbove l p av bl kw sm ma mf mw cj h b hb 1083 0 0 _ _ _ _ _ _ _ (by omega) (by omega) ⟨Int.le_refl _, by split <;> omega⟩ (fun x hx => ⟨fun _ => DA_0 h.1 _, fun _ => hx⟩) (by omega)
theorem c_M_leastRadius (h : MV p) (he fa li sl be ov : Int) : Con l M_M_leastRadius R_M_leastRadius 0 0 false [.ref 0] (eM p he fa li sl be ov av bl kw sm ma mf mw cj) (zAi (lstA (radP p.t)) (LM p av bl kw sm ma mf mw cj)) := by
  refine Con.of_Z (by decide) D_M_leastRadius (Nat.le_of_ble_eq_true rfl) ?_
  refine Z_aload_n 0 rfl rfl rfl ?_
  refine Z_iconst 1 rfl ?_
  refine Z_callVi (M' := M_M_leastAbove) 2 isM rfl l_M_261 C_M_leastAbove (c_M_leastAbove l p av bl kw sm ma mf mw cj h 1 (Or.inr rfl) he fa li sl be ov) (emM ..) (Or.inl ⟨_, _, _, _, rfl, rfl⟩) rfl rfl rfl (Nat.le_of_ble_eq_true rfl) ⟨rfl, rfl, Nat.le_of_ble_eq_true rfl, Nat.le_of_ble_eq_true rfl⟩ ⟨Nat.zero_le _, Nat.zero_le _⟩ (fun out hq => ?_)
  obtain ⟨he', fa', li', sl', be', ov', rfl⟩ := hq
  refine Z_mem (mgM ..) ?_
  refine Z_iret 3 rfl rfl ⟨Nat.le_refl _, Nat.le_refl _⟩ ?_
  exact ⟨by rw [lstA_c (laP_rad p.t p.s)], _, _, _, _, _, _, rfl⟩
theorem c_M_leastPreload (h : MV p) (he fa li sl be ov : Int) : Con l M_M_leastPreload R_M_leastPreload 0 0 false [.ref 0] (eM p he fa li sl be ov av bl kw sm ma mf mw cj) (zAi (lstA (preP p.t p.s)) (LM p av bl kw sm ma mf mw cj)) := by
  refine Con.of_Z (by decide) D_M_leastPreload (Nat.le_of_ble_eq_true rfl) ?_
  refine Z_aload_n 0 rfl rfl rfl ?_
  refine Z_iconst 1 rfl ?_
  refine Z_callVi (M' := M_M_leastAbove) 2 isM rfl l_M_261 C_M_leastAbove (c_M_leastAbove l p av bl kw sm ma mf mw cj h 0 (Or.inl rfl) he fa li sl be ov) (emM ..) (Or.inl ⟨_, _, _, _, rfl, rfl⟩) rfl rfl rfl (Nat.le_of_ble_eq_true rfl) ⟨rfl, rfl, Nat.le_of_ble_eq_true rfl, Nat.le_of_ble_eq_true rfl⟩ ⟨Nat.zero_le _, Nat.zero_le _⟩ (fun out hq => ?_)
  obtain ⟨he', fa', li', sl', be', ov', rfl⟩ := hq
  refine Z_mem (mgM ..) ?_
  refine Z_iret 3 rfl rfl ⟨Nat.le_refl _, Nat.le_refl _⟩ ?_
  exact ⟨by rw [lstA_c (laP_pre p.t p.s)], _, _, _, _, _, _, rfl⟩
end M4
