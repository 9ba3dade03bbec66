/-! the model: smoothed -/
theorem sl_5 (L r a : Int) : (sd 5 L r a 0).2.2.1 = 0 ∧ (sd 5 L r a L).2.2.1 = 0 := by
  constructor
  · show 30 * r * 0 * 0 * (L - 0) * (L - 0) = 0
    simp
  · show 30 * r * L * L * (L - L) * (L - L) = 0
    rw [Int.sub_self, Int.mul_zero]
/-- some kinds made QUINTIC -/
def KS (t : TT) (b : Int) (K : Int → Int) : Prop := (∀ i, 0 ≤ i → i < t.2.2.2 → K i = if tbi b i = 1 then 5 else t.1 i) ∧ (∀ i, 0 ≤ K i ∧ K i ≤ 5) ∧ ∀ i, ¬ (0 ≤ i ∧ i < t.2.2.2) → K i = t.1 i
theorem KS_TV {t : TT} {b : Int} {K : Int → Int} (h : TV t) (hK : KS t b K) (hm : mayS t b) : TV (K, t.2) := by
  refine ⟨⟨h.1.1, hK.2.1, h.1.2.2⟩, h.2.1, fun k k1 k2 => ?_⟩
  have k2' : k < t.2.2.2 := k2
  have := h.2.2 k k1 k2'
  have e := hK.1 k k1 k2'
  show mb (K k) (t.2.1 k) (t.2.2.1 k)
  rw [e]
  by_cases z : tbi b k = 1
  · have := hm k k1 k2' z
    rw [if_pos z]
    unfold mb at *
    omega
  · rw [if_neg z]
    exact this
theorem lo_0n (a b : Int) (h : 0 < b) : lo a b 0 ≠ 0 ↔ a ≠ 0 := by
  rw [Ne, lo_z a b h]
theorem mul_n0 {x y : Int} (hy : 0 < y) : x * y ≠ 0 ↔ x ≠ 0 := by
  constructor
  · intro h z
    rw [z, Int.zero_mul] at h
    exact h rfl
  · intro h z
    rcases Int.mul_eq_zero.mp z with q | q
    · exact h q
    · omega
theorem KS_crn {t : TT} {b : Int} {K : Int → Int} (h : TV t) (hK : KS t b K) (hm : mayS t b) {j : Int} (hj1 : 0 ≤ j ∧ j < t.2.2.2) (hh : hj t j) : tbi (crn t j) (2 * tbi b (pa t j) + tbi b j) = 1 ↔ jpa (K, t.2) j 1 ≠ 0 := by
  have hT := KS_TV h hK hm
  obtain ⟨g1, g2⟩ := hj_in h hh
  have l1 := TV_L h g1.1 g1.2
  have l2 := TV_L h g2.1 g2.2
  have o1 := (pl_bd h g1 (u := 0) (by omega)).1
  have o2 := (pl_bd h g2 (u := t.2.1 (pa t j)) (by omega)).1
  have q1 := (pl_bd hT (k := j) g1 (u := 0) ⟨Int.le_refl 0, by show 0 ≤ t.2.1 j; omega⟩).1
  have q2 := (pl_bd hT (k := pa t j) g2 (u := t.2.1 (pa t j)) ⟨by omega, Int.le_refl _⟩).1
  have b1 := tbi_01 b j
  have b2 := tbi_01 b (pa t j)
  have e1 := hK.1 j g1.1 g1.2
  have e2 := hK.1 (pa t j) g2.1 g2.2
  have ej : jpa (K, t.2) j 1 = lo (pl (K, t.2) j 0).2.2.1 (pl (K, t.2) j 0).1 0 * lo (pl (K, t.2) (pa t j) (t.2.1 (pa t j))).2.2.1 (pl (K, t.2) (pa t j) (t.2.1 (pa t j))).1 1 - lo (pl (K, t.2) (pa t j) (t.2.1 (pa t j))).2.2.1 (pl (K, t.2) (pa t j) (t.2.1 (pa t j))).1 0 * lo (pl (K, t.2) j 0).2.2.1 (pl (K, t.2) j 0).1 1 := rfl
  have ej0 : jpa t j 1 = lo (pl t j 0).2.2.1 (pl t j 0).1 0 * lo (pl t (pa t j) (t.2.1 (pa t j))).2.2.1 (pl t (pa t j) (t.2.1 (pa t j))).1 1 - lo (pl t (pa t j) (t.2.1 (pa t j))).2.2.1 (pl t (pa t j) (t.2.1 (pa t j))).1 0 * lo (pl t j 0).2.2.1 (pl t j 0).1 1 := rfl
  have pj : pl (K, t.2) j 0 = sd (K j) (t.2.1 j) (t.2.2.1 j) (ah t j) 0 := rfl
  have pp : pl (K, t.2) (pa t j) (t.2.1 (pa t j)) = sd (K (pa t j)) (t.2.1 (pa t j)) (t.2.2.1 (pa t j)) (ah t (pa t j)) (t.2.1 (pa t j)) := rfl
  have pj0 : pl t j 0 = sd (t.1 j) (t.2.1 j) (t.2.2.1 j) (ah t j) 0 := rfl
  have pp0 : pl t (pa t j) (t.2.1 (pa t j)) = sd (t.1 (pa t j)) (t.2.1 (pa t j)) (t.2.2.1 (pa t j)) (ah t (pa t j)) (t.2.1 (pa t j)) := rfl
  have f1 := bI_01 (jpa t j 1 ≠ 0)
  have f2 := bI_01 ((pl t (pa t j) (t.2.1 (pa t j))).2.2.1 ≠ 0)
  have f3 := bI_01 ((pl t j 0).2.2.1 ≠ 0)
  have bb : ∀ x y z : Int, (x = 0 ∨ x = 1) → (y = 0 ∨ y = 1) → (z = 0 ∨ z = 1) → tbi (x + 2 * y + 4 * z) 0 = x ∧ tbi (x + 2 * y + 4 * z) 1 = y ∧ tbi (x + 2 * y + 4 * z) 2 = z ∧ tbi (x + 2 * y + 4 * z) 3 = 0 := by
    intro x y z hx hy hz
    rcases hx with hx | hx <;> rcases hy with hy | hy <;> rcases hz with hz | hz <;> subst hx hy hz <;> decide
  have bs := bb _ _ _ f1 f2 f3
  have b1e : ∀ P : Prop, bI P = 1 ↔ P := fun P => by
    by_cases z : P
    · rw [bI_t z]; exact ⟨fun _ => z, fun _ => rfl⟩
    · rw [bI_f z]; exact ⟨fun w => by omega, fun w => absurd w z⟩
  unfold crn
  rw [cif_t hh]
  rcases (show tbi b j = 0 ∨ tbi b j = 1 by omega) with z1 | z1 <;> rcases (show tbi b (pa t j) = 0 ∨ tbi b (pa t j) = 1 by omega) with z2 | z2
  · rw [z1, z2]
    rw [if_neg (by omega)] at e1 e2
    rw [show (2 * 0 + 0 : Int) = 0 from rfl, bs.1, b1e, ej, pj, pp, e1, e2, ← pj0, ← pp0, ← ej0]
  · rw [z1, z2]
    rw [if_neg (by omega)] at e1
    rw [if_pos z2] at e2
    rw [show (2 * 1 + 0 : Int) = 2 from rfl, bs.2.2.1, b1e, ej]
    have s5 : (pl (K, t.2) (pa t j) (t.2.1 (pa t j))).2.2.1 = 0 := by rw [pp, e2]; exact (sl_5 _ _ _).2
    rw [s5, (lo_z 0 _ (by omega)).mpr rfl, Int.zero_mul, Int.sub_zero, mul_n0 (lo_p _ _ (by omega)), lo_0n _ _ (by omega), pj, e1, ← pj0]
  · rw [z1, z2]
    rw [if_pos z1] at e1
    rw [if_neg (by omega)] at e2
    rw [show (2 * 0 + 1 : Int) = 1 from rfl, bs.2.1, b1e, ej]
    have s5 : (pl (K, t.2) j 0).2.2.1 = 0 := by rw [pj, e1]; exact (sl_5 _ _ _).1
    rw [s5, (lo_z 0 _ (by omega)).mpr rfl, Int.zero_mul, Int.zero_sub, Int.neg_ne_zero, mul_n0 (lo_p _ _ (by omega)), lo_0n _ _ (by omega), pp, e2, ← pp0]
  · rw [z1, z2]
    rw [if_pos z1] at e1
    rw [if_pos z2] at e2
    rw [show (2 * 1 + 1 : Int) = 3 from rfl, bs.2.2.2, ej]
    have s5 : (pl (K, t.2) j 0).2.2.1 = 0 := by rw [pj, e1]; exact (sl_5 _ _ _).1
    have s6 : (pl (K, t.2) (pa t j) (t.2.1 (pa t j))).2.2.1 = 0 := by rw [pp, e2]; exact (sl_5 _ _ _).2
    rw [s5, s6, (lo_z 0 _ (by omega)).mpr rfl, (lo_z 0 _ (by omega)).mpr rfl, Int.zero_mul, Int.zero_mul]
    exact ⟨fun z => by omega, fun z => absurd rfl z⟩
def cnr (t : TT) : Prop := ∃ j, 0 ≤ j ∧ j < t.2.2.2 ∧ hj t j ∧ jpa t j 1 ≠ 0
theorem KS_hcr {t : TT} {b : Int} {K : Int → Int} (h : TV t) (hK : KS t b K) (hm : mayS t b) : hcr t b ↔ cnr (K, t.2) := by
  constructor
  · rintro ⟨k, k1, k2, k3⟩
    by_cases hh : hj t k
    · exact ⟨k, k1, k2, hh, (KS_crn h hK hm ⟨k1, k2⟩ hh).mp k3⟩
    · exfalso
      unfold crn at k3
      rw [cif_f hh] at k3
      unfold tbi at k3
      simp at k3
  · rintro ⟨k, k1, k2, hh, k3⟩
    exact ⟨k, k1, k2, (KS_crn h hK hm ⟨k1, k2⟩ hh).mpr k3⟩
section M10
variable (l : Launch) (p : MP) (sm : Int → Int) (ma mf mw : Int) (cj : TT)
theorem lp_M_bits (b : Int) (hb : 0 ≤ b) : ∀ (d : Nat) (i : Int), 0 ≤ i → i ≤ 12 → 12 - i < d → Z (l, M_M_bits, R_M_bits, (0, 0), false, zAi (pcn b) (fun m => m = [])) 0 0 [] 4 [(0, .int (iI b)), (1, .int (iI (sI (fun k => tbi b k) i))), (2, .int (iI i))] [] := by
  intro d
  induction d with
  | zero => intro i h2 h3 h4; omega
  | succ d ih =>
    intro i h2 h3 h4
    refine Z_iload_n 4 rfl rfl rfl ?_
    refine Z_bipush 5 rfl rfl ?_
    refine Z_icmp_ge 6 rfl (tgt := 24) rfl (by omega) (by omega) (fun c7 => ?_) (fun c7 => ?_)
    · refine Z_iload_n 17 rfl rfl rfl ?_
      refine Z_iret 18 rfl rfl ⟨Nat.le_refl _, Nat.le_refl _⟩ ?_
      exact ⟨by rw [show i = 12 by omega]; rfl, rfl⟩
    · refine Z_iload_n 7 rfl rfl rfl ?_
      refine Z_iload_n 8 rfl rfl rfl ?_
      refine Z_iload_n 9 rfl rfl rfl ?_
      refine Z_ishr 10 rfl ?_
      refine Z_iconst 11 rfl ?_
      refine Z_iand 12 rfl ?_
      refine Z_ti (sr_1 hb (by omega)) ?_
      refine Z_iadd 13 rfl ?_
      refine Z_ci (sI_s (fun k => tbi b k) h2).symm ?_
      refine Z_istore_n 14 rfl rfl (Nat.le_of_ble_eq_true rfl) (lv' := [(1, .int _), (0, .int _), (2, .int _)]) rfl ?_
      refine Z_iinc 15 rfl rfl (Nat.le_of_ble_eq_true rfl) (lv' := [(2, .int _), (1, .int _), (0, .int _)]) rfl ?_
      refine Z_goto 16 rfl (tgt := 4) rfl ?_
      refine Z_pick [0, 1, 2] (lv' := [(0, .int _), (1, .int _), (2, .int _)]) rfl ?_
      exact ih (i + 1) (by omega) (by omega) (by omega)
theorem c_M_bits (b : Int) (hb : 0 ≤ b) : Con l M_M_bits R_M_bits 0 0 false [.int (iI b)] [] (zAi (pcn b) (fun m => m = [])) := by
  refine Con.of_Z (by decide) D_M_bits (Nat.le_of_ble_eq_true rfl) ?_
  refine Z_iconst 0 rfl ?_
  refine Z_istore_n 1 rfl rfl (Nat.le_of_ble_eq_true rfl) (lv' := [(1, .int _), (0, .int _)]) rfl ?_
  refine Z_iconst 2 rfl ?_
  refine Z_istore_n 3 rfl rfl (Nat.le_of_ble_eq_true rfl) (lv' := [(2, .int _), (1, .int _), (0, .int _)]) rfl ?_
  refine Z_pick [0, 1, 2] (lv' := [(0, .int _), (1, .int _), (2, .int _)]) rfl ?_
  exact lp_M_bits l b hb 13 0 (by omega) (by omega) (by omega)
theorem lp_M_hasCorner (h : MV p) (kw : Int → Int) : ∀ (d : Nat) (k he fa li sl be ov av bl : Int), 0 ≤ k → k ≤ p.t.2.2.2 → p.t.2.2.2 - k < d → (∀ i, 0 ≤ i → i < k → hj p.t i → ¬ jpa p.t i 1 ≠ 0) → Z (l, M_M_hasCorner, R_M_hasCorner, (0, 0), false, zAb (cnr p.t) (LJ p kw sm ma mf mw cj)) 0 0 (eM p he fa li sl be ov av bl kw sm ma mf mw cj) 2 [(0, .ref 0), (1, .int (iI k))] [] := by
  have h1 := h.1.1.1
  intro d
  induction d with
  | zero => intro k he fa li sl be ov av bl h2 h3 h4; omega
  | succ d ih =>
    intro k he fa li sl be ov av bl h2 h3 h4 h5
    refine Z_iload_n 2 rfl rfl rfl ?_
    refine Z_aload_n 3 rfl rfl rfl ?_
    refine Z_get 4 rfl f_M_77 rfl rfl ?_
    refine Z_icmp_ge 5 rfl (tgt := 44) rfl (by omega) (by omega) (fun c7 => ?_) (fun c7 => ?_)
    · refine Z_iconst 24 rfl ?_
      refine Z_zret 25 rfl rfl rfl ⟨Nat.le_refl _, Nat.le_refl _⟩ ?_
      exact ⟨bF (fun ⟨j, j1, j2, j3, j4⟩ => h5 j j1 (by omega) j3 j4), _, _, _, _, _, _, _, _, rfl⟩
    · refine Z_aload_n 6 rfl rfl rfl ?_
      refine Z_iload_n 7 rfl rfl rfl ?_
      refine Z_callVbp (M' := M_M_isJoin) 8 isM rfl l_M_217 C_M_isJoin (c_M_isJoin l p he fa li sl be ov av bl kw sm ma mf mw cj h k (by omega)) (emM ..) (Or.inl ⟨_, _, _, _, rfl, rfl⟩) rfl rfl rfl (Nat.le_of_ble_eq_true rfl) ⟨rfl, rfl, Nat.le_of_ble_eq_true rfl, Nat.le_of_ble_eq_true rfl⟩ ⟨Nat.zero_le _, Nat.zero_le _⟩ ?_
      refine Z_ifb_ne 9 rfl (tgt := 21) rfl (fun c15 => ?_) (fun c15 => ?_)
      · have hbj := jp_bd h.1 1 c15
        refine Z_aload_n 11 rfl rfl rfl ?_
        refine Z_iload_n 12 rfl rfl rfl ?_
        refine Z_iconst 13 rfl ?_
        refine Z_callVv (M' := M_M_jumps) 14 isM rfl l_M_220 C_M_jumps (c_M_jumps l p he fa li sl be ov av bl kw sm ma mf mw cj h k 0 c15 (Or.inl rfl)) (emM ..) (Or.inl ⟨_, _, _, _, rfl, rfl⟩) rfl rfl rfl (Nat.le_of_ble_eq_true rfl) ⟨rfl, rfl, Nat.le_of_ble_eq_true rfl, Nat.le_of_ble_eq_true rfl⟩ ⟨Nat.zero_le _, Nat.zero_le _⟩ (fun out hq => ?_)
        obtain ⟨he', fa', li', sl', be', ov', rfl⟩ := hq
        refine Z_mem (mgM ..) ?_
        rw [show (0 : Int) + 1 = 1 from rfl]
        refine Z_aload_n 15 rfl rfl rfl ?_
        refine Z_get 16 rfl f_M_211 rfl rfl ?_
        refine Z_lconst 17 rfl ?_
        refine Z_lc_eq 18 rfl rfl (tgt := 38) rfl (by omega) (by omega) (fun c32 => ?_) (fun c32 => ?_)
        · refine Z_iinc 22 rfl rfl (Nat.le_of_ble_eq_true rfl) (lv' := [(1, .int _), (0, .ref _)]) rfl ?_
          refine Z_goto 23 rfl (tgt := 2) rfl ?_
          refine Z_pick [0, 1] (lv' := [(0, .ref _), (1, .int _)]) rfl ?_
          exact ih (k + 1) _ _ _ _ _ _ _ _ (by omega) (by omega) (by omega) (fun i i1 i2 i3 => by
            by_cases e : i = k
            · rw [e] at i3 ⊢
              first | exact absurd i3 c15 | omega
            · exact h5 i i1 (by omega) i3)
        · refine Z_iconst 20 rfl ?_
          refine Z_zret 21 rfl rfl rfl ⟨Nat.le_refl _, Nat.le_refl _⟩ ?_
          exact ⟨bT ⟨k, h2, by omega, c15, by omega⟩, _, _, _, _, _, _, _, _, rfl⟩
      · refine Z_goto 10 rfl (tgt := 38) rfl ?_
        refine Z_iinc 22 rfl rfl (Nat.le_of_ble_eq_true rfl) (lv' := [(1, .int _), (0, .ref _)]) rfl ?_
        refine Z_goto 23 rfl (tgt := 2) rfl ?_
        refine Z_pick [0, 1] (lv' := [(0, .ref _), (1, .int _)]) rfl ?_
        exact ih (k + 1) _ _ _ _ _ _ _ _ (by omega) (by omega) (by omega) (fun i i1 i2 i3 => by
          by_cases e : i = k
          · rw [e] at i3 ⊢
            first | exact absurd i3 c15 | omega
          · exact h5 i i1 (by omega) i3)
theorem c_M_hasCorner (h : MV p) (kw : Int → Int) (he fa li sl be ov av bl : Int) : Con l M_M_hasCorner R_M_hasCorner 0 0 false [.ref 0] (eM p he fa li sl be ov av bl kw sm ma mf mw cj) (zAb (cnr p.t) (LJ p kw sm ma mf mw cj)) := by
  have h1 := h.1.1.1
  refine Con.of_Z (by decide) D_M_hasCorner (Nat.le_of_ble_eq_true rfl) ?_
  refine Z_iconst 0 rfl ?_
  refine Z_istore_n 1 rfl rfl (Nat.le_of_ble_eq_true rfl) (lv' := [(1, .int _), (0, .ref _)]) rfl ?_
  refine Z_pick [0, 1] (lv' := [(0, .ref _), (1, .int _)]) rfl ?_
  exact lp_M_hasCorner l p sm ma mf mw cj h kw 13 0 _ _ _ _ _ _ _ _ (by omega) (by omega) (by omega) (fun i i1 i2 => by omega)
/-- the first so many kinds made -/
def KB (t : TT) (b k : Int) (K : Int → Int) : Prop := (∀ i, 0 ≤ i → i < k → K i = if tbi b i = 1 then 5 else t.1 i) ∧ (∀ i, 0 ≤ K i ∧ K i ≤ 5) ∧ ∀ i, ¬ (0 ≤ i ∧ i < t.2.2.2) → K i = t.1 i
def mayK (t : TT) (b k : Int) : Prop := ∀ i, 0 ≤ i → i < k → tbi b i = 1 → 1 ≤ t.1 i ∧ t.1 i ≤ 4
theorem mayK_s {t : TT} {b k : Int} (hk : 0 ≤ k) : mayK t b (k + 1) ↔ mayK t b k ∧ (tbi b k = 1 → 1 ≤ t.1 k ∧ t.1 k ≤ 4) := by
  constructor
  · intro z
    exact ⟨fun i i1 i2 => z i i1 (by omega), z k hk (by omega)⟩
  · rintro ⟨z1, z2⟩ i i1 i2
    by_cases e : i = k
    · rw [e]; exact z2
    · exact z1 i i1 (by omega)
theorem lp_M_smoothed (h : MV p) (kw : Int → Int) (hkw : ∀ i, 0 ≤ i → i < 12 → kw i = p.t.1 i) : ∀ (d : Nat) (b best few : Int) (K : Int → Int) (he fa li sl be ov av bl : Int), 0 ≤ b → b ≤ p2 p.t.2.2.2 → p2 p.t.2.2.2 - b < d → smI (okS p.t) b best few → KB p.t 0 0 K → Z (l, M_M_smoothed, R_M_smoothed, (0, 0), false, zAi (smF p.t) (fun m => ∃ kw', LJ p kw' sm ma mf mw cj m)) 0 0 (eM ((K, p.t.2), p.2) he fa li sl be ov av bl kw sm ma mf mw cj) 20 [(0, .ref 0), (1, .int (iI best)), (2, .int (iI b))] [] := by
  have h1 := h.1.1.1
  have hp := p2_sh h1
  intro d
  induction d with
  | zero => intro b best few K he fa li sl be ov av bl h2 h3 h4; omega
  | succ d ih =>
    intro b best few K he fa li sl be ov av bl h2 h3 h4 h5 h6
    have hpc := pcn_bd b
    have hpb := pcn_bd best
    have hfw : (best = -5 ∧ few = 13) ∨ (0 ≤ best ∧ best < b ∧ few = pcn best) := by
      rcases h5 with z | z
      · exact Or.inl ⟨z.1, z.2.1⟩
      · exact Or.inr ⟨z.1, z.2.1, z.2.2.2.1⟩
    have inner : b < p2 p.t.2.2.2 → ¬ few ≤ pcn b → ∀ (d2 : Nat) (k : Int) (K : Int → Int), 0 ≤ k → k ≤ p.t.2.2.2 → p.t.2.2.2 - k < d2 → KB p.t b k K → Z (l, M_M_smoothed, R_M_smoothed, (0, 0), false, zAi (smF p.t) (fun m => ∃ kw', LJ p kw' sm ma mf mw cj m)) 0 0 (eM ((K, p.t.2), p.2) he fa li sl be ov av bl kw sm ma mf mw cj) 55 [(0, .ref 0), (1, .int (iI best)), (2, .int (iI b)), (3, .int (iI (bI (mayK p.t b k)))), (4, .int (iI k))] [] := by
      intro hb2 hfew d2
      induction d2 with
      | zero => intro k K i1 i2 i3; omega
      | succ d2 ih2 =>
        intro k K i1 i2 i3 i4
        have t1 := tbi_01 b k
        have t2 := h.1.1.2.1 k
        have t3 := hkw k i1
        have ms := mayK_s (t := p.t) (b := b) i1
        refine Z_iload 31 rfl rfl ?_
        refine Z_aload_n 32 rfl rfl rfl ?_
        refine Z_get 33 rfl f_M_77 rfl rfl ?_
        refine Z_ci (show _ = p.t.2.2.2 from rfl) ?_
        refine Z_icmp_ge 34 rfl (tgt := 146) rfl (by omega) (by omega) (fun c61 => ?_) (fun c61 => ?_)
        · refine Z_iload_n 79 rfl rfl rfl ?_
          refine Z_ifb_eq 80 rfl (tgt := 159) rfl (fun c147 => ?_) (fun c147 => ?_)
          · refine Z_iinc 86 rfl rfl (Nat.le_of_ble_eq_true rfl) (lv' := [(2, .int _), (0, .ref _), (1, .int _), (3, .int _), (4, .int _)]) rfl ?_
            refine Z_goto 87 rfl (tgt := 20) rfl ?_
            refine Z_pick [0, 1, 2] (lv' := [(0, .ref _), (1, .int _), (2, .int _)]) rfl ?_
            first
              | exact ih (b + 1) best few K _ _ _ _ _ _ _ _ (by omega) (by omega) (by omega) (smI_skip h2 h5 (Or.inl (fun z => z.2 (hc.mpr c154)))) ⟨fun i j1 j2 => by omega, i4.2⟩
              | exact ih (b + 1) b (pcn b) K _ _ _ _ _ _ _ _ (by omega) (by omega) (by omega) (smI_take h2 h5 ⟨hmay, fun z => c154 (hc.mp z)⟩ hfew) ⟨fun i j1 j2 => by omega, i4.2⟩
              | exact ih (b + 1) best few K _ _ _ _ _ _ _ _ (by omega) (by omega) (by omega) (smI_skip h2 h5 (Or.inl (fun z => c147 (fun i j1 j2 => z.1 i j1 (by omega))))) ⟨fun i j1 j2 => by omega, i4.2⟩
          · have ek : k = p.t.2.2.2 := by omega
            have hKS : KS p.t b K := by rw [ek] at i4; exact i4
            have hmay : mayS p.t b := by rw [ek] at c147; exact c147
            have hMV : MV ((K, p.t.2), p.2) := ⟨KS_TV h.1 hKS hmay, h.2⟩
            have hc := KS_hcr h.1 hKS hmay
            refine Z_aload_n 81 rfl rfl rfl ?_
            refine Z_callVb (M' := M_M_hasCorner) 82 isM rfl l_M_286 C_M_hasCorner (c_M_hasCorner l ((K, p.t.2), p.2) sm ma mf mw cj hMV kw he fa li sl be ov av bl) (emM ..) (Or.inl ⟨_, _, _, _, rfl, rfl⟩) rfl rfl rfl (Nat.le_of_ble_eq_true rfl) ⟨rfl, rfl, Nat.le_of_ble_eq_true rfl, Nat.le_of_ble_eq_true rfl⟩ ⟨Nat.zero_le _, Nat.zero_le _⟩ (fun out hq => ?_)
            obtain ⟨he', fa', li', sl', be', ov', av', bl', rfl⟩ := hq
            refine Z_mem (mgM ..) ?_
            refine Z_ifb_ne 83 rfl (tgt := 159) rfl (fun c154 => ?_) (fun c154 => ?_)
            · refine Z_iinc 86 rfl rfl (Nat.le_of_ble_eq_true rfl) (lv' := [(2, .int _), (0, .ref _), (1, .int _), (3, .int _), (4, .int _)]) rfl ?_
              refine Z_goto 87 rfl (tgt := 20) rfl ?_
              refine Z_pick [0, 1, 2] (lv' := [(0, .ref _), (1, .int _), (2, .int _)]) rfl ?_
              first
                | exact ih (b + 1) best few K _ _ _ _ _ _ _ _ (by omega) (by omega) (by omega) (smI_skip h2 h5 (Or.inl (fun z => z.2 (hc.mpr c154)))) ⟨fun i j1 j2 => by omega, i4.2⟩
                | exact ih (b + 1) b (pcn b) K _ _ _ _ _ _ _ _ (by omega) (by omega) (by omega) (smI_take h2 h5 ⟨hmay, fun z => c154 (hc.mp z)⟩ hfew) ⟨fun i j1 j2 => by omega, i4.2⟩
                | exact ih (b + 1) best few K _ _ _ _ _ _ _ _ (by omega) (by omega) (by omega) (smI_skip h2 h5 (Or.inl (fun z => c147 (fun i j1 j2 => z.1 i j1 (by omega))))) ⟨fun i j1 j2 => by omega, i4.2⟩
            · refine Z_iload_n 84 rfl rfl rfl ?_
              refine Z_istore_n 85 rfl rfl (Nat.le_of_ble_eq_true rfl) (lv' := [(1, .int _), (0, .ref _), (2, .int _), (3, .int _), (4, .int _)]) rfl ?_
              refine Z_iinc 86 rfl rfl (Nat.le_of_ble_eq_true rfl) (lv' := [(2, .int _), (1, .int _), (0, .ref _), (3, .int _), (4, .int _)]) rfl ?_
              refine Z_goto 87 rfl (tgt := 20) rfl ?_
              refine Z_pick [0, 1, 2] (lv' := [(0, .ref _), (1, .int _), (2, .int _)]) rfl ?_
              first
                | exact ih (b + 1) best few K _ _ _ _ _ _ _ _ (by omega) (by omega) (by omega) (smI_skip h2 h5 (Or.inl (fun z => z.2 (hc.mpr c154)))) ⟨fun i j1 j2 => by omega, i4.2⟩
                | exact ih (b + 1) b (pcn b) K _ _ _ _ _ _ _ _ (by omega) (by omega) (by omega) (smI_take h2 h5 ⟨hmay, fun z => c154 (hc.mp z)⟩ hfew) ⟨fun i j1 j2 => by omega, i4.2⟩
                | exact ih (b + 1) best few K _ _ _ _ _ _ _ _ (by omega) (by omega) (by omega) (smI_skip h2 h5 (Or.inl (fun z => c147 (fun i j1 j2 => z.1 i j1 (by omega))))) ⟨fun i j1 j2 => by omega, i4.2⟩
        · refine Z_iload_n 35 rfl rfl rfl ?_
          refine Z_iload 36 rfl rfl ?_
          refine Z_ishr 37 rfl ?_
          refine Z_iconst 38 rfl ?_
          refine Z_iand 39 rfl ?_
          refine Z_ti (sr_1 h2 (by omega)) ?_
          refine Z_iconst 40 rfl ?_
          refine Z_icmp_ne 41 rfl (tgt := 78) rfl (by omega) (by omega) (fun c71 => ?_) (fun c71 => ?_)
          · refine Z_iconst 44 rfl ?_
            refine Z_ci (show _ = tbi b k by omega) ?_
            refine Z_istore 45 rfl (Nat.le_of_ble_eq_true rfl) (lv' := [(5, .int _), (0, .ref _), (1, .int _), (2, .int _), (3, .int _), (4, .int _)]) rfl ?_
            refine Z_iload_n 46 rfl rfl rfl ?_
            refine Z_ifb_eq 47 rfl (tgt := 115) rfl (fun c82 => ?_) (fun c82 => ?_)
            · refine Z_iconst 63 rfl ?_
              refine Z_ci (show _ = bI (mayK p.t b (k + 1)) by first | (rw [bI_t (ms.mpr ⟨c82, fun z => by omega⟩)] <;> rfl) | (rw [bI_f (fun z => c82 (ms.mp z).1)] <;> rfl) | (rw [bI_f (fun z => by have := (ms.mp z).2 (by omega); omega)] <;> rfl)) ?_
              refine Z_istore_n 64 rfl rfl (Nat.le_of_ble_eq_true rfl) (lv' := [(3, .int _), (5, .int _), (0, .ref _), (1, .int _), (2, .int _), (4, .int _)]) rfl ?_
              refine Z_aload_n 65 rfl rfl rfl ?_
              refine Z_get 66 rfl f_M_11 rfl rfl ?_
              refine Z_iload 67 rfl rfl ?_
              refine Z_iload 68 rfl rfl ?_
              refine Z_if_eq 69 rfl (tgt := 132) rfl (by omega) (fun c125 => ?_) (fun c125 => ?_)
              · refine Z_aload_n 72 rfl rfl rfl ?_
                refine Z_get 73 rfl f_M_30 rfl rfl ?_
                refine Z_iload 74 rfl rfl ?_
                refine Z_ia 75 rfl rfl (by omega) (by decide) ?_
                refine Z_ci (show _ = (if tbi b k = 1 then 5 else p.t.1 k) by first | (rw [if_pos (by omega)] <;> rfl) | (rw [if_neg (by omega)]; exact t3 (by omega))) ?_
                refine Z_ias 76 rfl rfl (by omega) (by decide) (mem' := eM ((uI K k (if tbi b k = 1 then 5 else p.t.1 k), p.t.2), p.2) he fa li sl be ov av bl kw sm ma mf mw cj) rfl ?_
                refine Z_iinc 77 rfl rfl (Nat.le_of_ble_eq_true rfl) (lv' := [(4, .int _), (3, .int _), (5, .int _), (0, .ref _), (1, .int _), (2, .int _)]) rfl ?_
                refine Z_goto 78 rfl (tgt := 55) rfl ?_
                refine Z_pick [0, 1, 2, 3, 4] (lv' := [(0, .ref _), (1, .int _), (2, .int _), (3, .int _), (4, .int _)]) rfl ?_
                exact ih2 (k + 1) _ (by omega) (by omega) (by omega) ⟨fun i j1 j2 => by
                  by_cases e : i = k
                  · rw [e, uI_s]
                  · rw [uI_n _ _ e]
                    exact i4.1 i j1 (by omega), fun i => by
                  by_cases e : i = k
                  · rw [e, uI_s]
                    split <;> omega
                  · rw [uI_n _ _ e]
                    exact i4.2.1 i, fun i hi => by
                  rw [uI_n _ _ (by omega)]
                  exact i4.2.2 i hi⟩
              · refine Z_iconst 70 rfl ?_
                refine Z_goto 71 rfl (tgt := 139) rfl ?_
                refine Z_ci (show _ = (if tbi b k = 1 then 5 else p.t.1 k) by first | (rw [if_pos (by omega)] <;> rfl) | (rw [if_neg (by omega)]; exact t3 (by omega))) ?_
                refine Z_ias 76 rfl rfl (by omega) (by decide) (mem' := eM ((uI K k (if tbi b k = 1 then 5 else p.t.1 k), p.t.2), p.2) he fa li sl be ov av bl kw sm ma mf mw cj) rfl ?_
                refine Z_iinc 77 rfl rfl (Nat.le_of_ble_eq_true rfl) (lv' := [(4, .int _), (3, .int _), (5, .int _), (0, .ref _), (1, .int _), (2, .int _)]) rfl ?_
                refine Z_goto 78 rfl (tgt := 55) rfl ?_
                refine Z_pick [0, 1, 2, 3, 4] (lv' := [(0, .ref _), (1, .int _), (2, .int _), (3, .int _), (4, .int _)]) rfl ?_
                exact ih2 (k + 1) _ (by omega) (by omega) (by omega) ⟨fun i j1 j2 => by
                  by_cases e : i = k
                  · rw [e, uI_s]
                  · rw [uI_n _ _ e]
                    exact i4.1 i j1 (by omega), fun i => by
                  by_cases e : i = k
                  · rw [e, uI_s]
                    split <;> omega
                  · rw [uI_n _ _ e]
                    exact i4.2.1 i, fun i hi => by
                  rw [uI_n _ _ (by omega)]
                  exact i4.2.2 i hi⟩
            · refine Z_iload 48 rfl rfl ?_
              refine Z_if_eq 49 rfl (tgt := 111) rfl (by omega) (fun c87 => ?_) (fun c87 => ?_)
              · refine Z_iconst 61 rfl ?_
                refine Z_goto 62 rfl (tgt := 116) rfl ?_
                refine Z_ci (show _ = bI (mayK p.t b (k + 1)) by first | (rw [bI_t (ms.mpr ⟨c82, fun z => by omega⟩)] <;> rfl) | (rw [bI_f (fun z => c82 (ms.mp z).1)] <;> rfl) | (rw [bI_f (fun z => by have := (ms.mp z).2 (by omega); omega)] <;> rfl)) ?_
                refine Z_istore_n 64 rfl rfl (Nat.le_of_ble_eq_true rfl) (lv' := [(3, .int _), (5, .int _), (0, .ref _), (1, .int _), (2, .int _), (4, .int _)]) rfl ?_
                refine Z_aload_n 65 rfl rfl rfl ?_
                refine Z_get 66 rfl f_M_11 rfl rfl ?_
                refine Z_iload 67 rfl rfl ?_
                refine Z_iload 68 rfl rfl ?_
                refine Z_if_eq 69 rfl (tgt := 132) rfl (by omega) (fun c125 => ?_) (fun c125 => ?_)
                · refine Z_aload_n 72 rfl rfl rfl ?_
                  refine Z_get 73 rfl f_M_30 rfl rfl ?_
                  refine Z_iload 74 rfl rfl ?_
                  refine Z_ia 75 rfl rfl (by omega) (by decide) ?_
                  refine Z_ci (show _ = (if tbi b k = 1 then 5 else p.t.1 k) by first | (rw [if_pos (by omega)] <;> rfl) | (rw [if_neg (by omega)]; exact t3 (by omega))) ?_
                  refine Z_ias 76 rfl rfl (by omega) (by decide) (mem' := eM ((uI K k (if tbi b k = 1 then 5 else p.t.1 k), p.t.2), p.2) he fa li sl be ov av bl kw sm ma mf mw cj) rfl ?_
                  refine Z_iinc 77 rfl rfl (Nat.le_of_ble_eq_true rfl) (lv' := [(4, .int _), (3, .int _), (5, .int _), (0, .ref _), (1, .int _), (2, .int _)]) rfl ?_
                  refine Z_goto 78 rfl (tgt := 55) rfl ?_
                  refine Z_pick [0, 1, 2, 3, 4] (lv' := [(0, .ref _), (1, .int _), (2, .int _), (3, .int _), (4, .int _)]) rfl ?_
                  exact ih2 (k + 1) _ (by omega) (by omega) (by omega) ⟨fun i j1 j2 => by
                    by_cases e : i = k
                    · rw [e, uI_s]
                    · rw [uI_n _ _ e]
                      exact i4.1 i j1 (by omega), fun i => by
                    by_cases e : i = k
                    · rw [e, uI_s]
                      split <;> omega
                    · rw [uI_n _ _ e]
                      exact i4.2.1 i, fun i hi => by
                    rw [uI_n _ _ (by omega)]
                    exact i4.2.2 i hi⟩
                · refine Z_iconst 70 rfl ?_
                  refine Z_goto 71 rfl (tgt := 139) rfl ?_
                  refine Z_ci (show _ = (if tbi b k = 1 then 5 else p.t.1 k) by first | (rw [if_pos (by omega)] <;> rfl) | (rw [if_neg (by omega)]; exact t3 (by omega))) ?_
                  refine Z_ias 76 rfl rfl (by omega) (by decide) (mem' := eM ((uI K k (if tbi b k = 1 then 5 else p.t.1 k), p.t.2), p.2) he fa li sl be ov av bl kw sm ma mf mw cj) rfl ?_
                  refine Z_iinc 77 rfl rfl (Nat.le_of_ble_eq_true rfl) (lv' := [(4, .int _), (3, .int _), (5, .int _), (0, .ref _), (1, .int _), (2, .int _)]) rfl ?_
                  refine Z_goto 78 rfl (tgt := 55) rfl ?_
                  refine Z_pick [0, 1, 2, 3, 4] (lv' := [(0, .ref _), (1, .int _), (2, .int _), (3, .int _), (4, .int _)]) rfl ?_
                  exact ih2 (k + 1) _ (by omega) (by omega) (by omega) ⟨fun i j1 j2 => by
                    by_cases e : i = k
                    · rw [e, uI_s]
                    · rw [uI_n _ _ e]
                      exact i4.1 i j1 (by omega), fun i => by
                    by_cases e : i = k
                    · rw [e, uI_s]
                      split <;> omega
                    · rw [uI_n _ _ e]
                      exact i4.2.1 i, fun i hi => by
                    rw [uI_n _ _ (by omega)]
                    exact i4.2.2 i hi⟩
              · refine Z_aload_n 50 rfl rfl rfl ?_
                refine Z_get 51 rfl f_M_30 rfl rfl ?_
                refine Z_iload 52 rfl rfl ?_
                skip
                refine Z_ia 53 rfl rfl (by omega) (by decide) ?_
                refine Z_ci (t3 (by omega)) ?_
                refine Z_if_eq 54 rfl (tgt := 115) rfl (by omega) (fun c97 => ?_) (fun c97 => ?_)
                · refine Z_iconst 63 rfl ?_
                  refine Z_ci (show _ = bI (mayK p.t b (k + 1)) by first | (rw [bI_t (ms.mpr ⟨c82, fun z => by omega⟩)] <;> rfl) | (rw [bI_f (fun z => c82 (ms.mp z).1)] <;> rfl) | (rw [bI_f (fun z => by have := (ms.mp z).2 (by omega); omega)] <;> rfl)) ?_
                  refine Z_istore_n 64 rfl rfl (Nat.le_of_ble_eq_true rfl) (lv' := [(3, .int _), (5, .int _), (0, .ref _), (1, .int _), (2, .int _), (4, .int _)]) rfl ?_
                  refine Z_aload_n 65 rfl rfl rfl ?_
                  refine Z_get 66 rfl f_M_11 rfl rfl ?_
                  refine Z_iload 67 rfl rfl ?_
                  refine Z_iload 68 rfl rfl ?_
                  refine Z_if_eq 69 rfl (tgt := 132) rfl (by omega) (fun c125 => ?_) (fun c125 => ?_)
                  · refine Z_aload_n 72 rfl rfl rfl ?_
                    refine Z_get 73 rfl f_M_30 rfl rfl ?_
                    refine Z_iload 74 rfl rfl ?_
                    refine Z_ia 75 rfl rfl (by omega) (by decide) ?_
                    refine Z_ci (show _ = (if tbi b k = 1 then 5 else p.t.1 k) by first | (rw [if_pos (by omega)] <;> rfl) | (rw [if_neg (by omega)]; exact t3 (by omega))) ?_
                    refine Z_ias 76 rfl rfl (by omega) (by decide) (mem' := eM ((uI K k (if tbi b k = 1 then 5 else p.t.1 k), p.t.2), p.2) he fa li sl be ov av bl kw sm ma mf mw cj) rfl ?_
                    refine Z_iinc 77 rfl rfl (Nat.le_of_ble_eq_true rfl) (lv' := [(4, .int _), (3, .int _), (5, .int _), (0, .ref _), (1, .int _), (2, .int _)]) rfl ?_
                    refine Z_goto 78 rfl (tgt := 55) rfl ?_
                    refine Z_pick [0, 1, 2, 3, 4] (lv' := [(0, .ref _), (1, .int _), (2, .int _), (3, .int _), (4, .int _)]) rfl ?_
                    exact ih2 (k + 1) _ (by omega) (by omega) (by omega) ⟨fun i j1 j2 => by
                      by_cases e : i = k
                      · rw [e, uI_s]
                      · rw [uI_n _ _ e]
                        exact i4.1 i j1 (by omega), fun i => by
                      by_cases e : i = k
                      · rw [e, uI_s]
                        split <;> omega
                      · rw [uI_n _ _ e]
                        exact i4.2.1 i, fun i hi => by
                      rw [uI_n _ _ (by omega)]
                      exact i4.2.2 i hi⟩
                  · refine Z_iconst 70 rfl ?_
                    refine Z_goto 71 rfl (tgt := 139) rfl ?_
                    refine Z_ci (show _ = (if tbi b k = 1 then 5 else p.t.1 k) by first | (rw [if_pos (by omega)] <;> rfl) | (rw [if_neg (by omega)]; exact t3 (by omega))) ?_
                    refine Z_ias 76 rfl rfl (by omega) (by decide) (mem' := eM ((uI K k (if tbi b k = 1 then 5 else p.t.1 k), p.t.2), p.2) he fa li sl be ov av bl kw sm ma mf mw cj) rfl ?_
                    refine Z_iinc 77 rfl rfl (Nat.le_of_ble_eq_true rfl) (lv' := [(4, .int _), (3, .int _), (5, .int _), (0, .ref _), (1, .int _), (2, .int _)]) rfl ?_
                    refine Z_goto 78 rfl (tgt := 55) rfl ?_
                    refine Z_pick [0, 1, 2, 3, 4] (lv' := [(0, .ref _), (1, .int _), (2, .int _), (3, .int _), (4, .int _)]) rfl ?_
                    exact ih2 (k + 1) _ (by omega) (by omega) (by omega) ⟨fun i j1 j2 => by
                      by_cases e : i = k
                      · rw [e, uI_s]
                      · rw [uI_n _ _ e]
                        exact i4.1 i j1 (by omega), fun i => by
                      by_cases e : i = k
                      · rw [e, uI_s]
                        split <;> omega
                      · rw [uI_n _ _ e]
                        exact i4.2.1 i, fun i hi => by
                      rw [uI_n _ _ (by omega)]
                      exact i4.2.2 i hi⟩
                · refine Z_aload_n 55 rfl rfl rfl ?_
                  refine Z_get 56 rfl f_M_30 rfl rfl ?_
                  refine Z_iload 57 rfl rfl ?_
                  refine Z_ia 58 rfl rfl (by omega) (by decide) ?_
                  refine Z_ci (t3 (by omega)) ?_
                  refine Z_iconst 59 rfl ?_
                  refine Z_icmp_eq 60 rfl (tgt := 115) rfl (by omega) (by omega) (fun c108 => ?_) (fun c108 => ?_)
                  · refine Z_iconst 63 rfl ?_
                    refine Z_ci (show _ = bI (mayK p.t b (k + 1)) by first | (rw [bI_t (ms.mpr ⟨c82, fun z => by omega⟩)] <;> rfl) | (rw [bI_f (fun z => c82 (ms.mp z).1)] <;> rfl) | (rw [bI_f (fun z => by have := (ms.mp z).2 (by omega); omega)] <;> rfl)) ?_
                    refine Z_istore_n 64 rfl rfl (Nat.le_of_ble_eq_true rfl) (lv' := [(3, .int _), (5, .int _), (0, .ref _), (1, .int _), (2, .int _), (4, .int _)]) rfl ?_
                    refine Z_aload_n 65 rfl rfl rfl ?_
                    refine Z_get 66 rfl f_M_11 rfl rfl ?_
                    refine Z_iload 67 rfl rfl ?_
                    refine Z_iload 68 rfl rfl ?_
                    refine Z_if_eq 69 rfl (tgt := 132) rfl (by omega) (fun c125 => ?_) (fun c125 => ?_)
                    · refine Z_aload_n 72 rfl rfl rfl ?_
                      refine Z_get 73 rfl f_M_30 rfl rfl ?_
                      refine Z_iload 74 rfl rfl ?_
                      refine Z_ia 75 rfl rfl (by omega) (by decide) ?_
                      refine Z_ci (show _ = (if tbi b k = 1 then 5 else p.t.1 k) by first | (rw [if_pos (by omega)] <;> rfl) | (rw [if_neg (by omega)]; exact t3 (by omega))) ?_
                      refine Z_ias 76 rfl rfl (by omega) (by decide) (mem' := eM ((uI K k (if tbi b k = 1 then 5 else p.t.1 k), p.t.2), p.2) he fa li sl be ov av bl kw sm ma mf mw cj) rfl ?_
                      refine Z_iinc 77 rfl rfl (Nat.le_of_ble_eq_true rfl) (lv' := [(4, .int _), (3, .int _), (5, .int _), (0, .ref _), (1, .int _), (2, .int _)]) rfl ?_
                      refine Z_goto 78 rfl (tgt := 55) rfl ?_
                      refine Z_pick [0, 1, 2, 3, 4] (lv' := [(0, .ref _), (1, .int _), (2, .int _), (3, .int _), (4, .int _)]) rfl ?_
                      exact ih2 (k + 1) _ (by omega) (by omega) (by omega) ⟨fun i j1 j2 => by
                        by_cases e : i = k
                        · rw [e, uI_s]
                        · rw [uI_n _ _ e]
                          exact i4.1 i j1 (by omega), fun i => by
                        by_cases e : i = k
                        · rw [e, uI_s]
                          split <;> omega
                        · rw [uI_n _ _ e]
                          exact i4.2.1 i, fun i hi => by
                        rw [uI_n _ _ (by omega)]
                        exact i4.2.2 i hi⟩
                    · refine Z_iconst 70 rfl ?_
                      refine Z_goto 71 rfl (tgt := 139) rfl ?_
                      refine Z_ci (show _ = (if tbi b k = 1 then 5 else p.t.1 k) by first | (rw [if_pos (by omega)] <;> rfl) | (rw [if_neg (by omega)]; exact t3 (by omega))) ?_
                      refine Z_ias 76 rfl rfl (by omega) (by decide) (mem' := eM ((uI K k (if tbi b k = 1 then 5 else p.t.1 k), p.t.2), p.2) he fa li sl be ov av bl kw sm ma mf mw cj) rfl ?_
                      refine Z_iinc 77 rfl rfl (Nat.le_of_ble_eq_true rfl) (lv' := [(4, .int _), (3, .int _), (5, .int _), (0, .ref _), (1, .int _), (2, .int _)]) rfl ?_
                      refine Z_goto 78 rfl (tgt := 55) rfl ?_
                      refine Z_pick [0, 1, 2, 3, 4] (lv' := [(0, .ref _), (1, .int _), (2, .int _), (3, .int _), (4, .int _)]) rfl ?_
                      exact ih2 (k + 1) _ (by omega) (by omega) (by omega) ⟨fun i j1 j2 => by
                        by_cases e : i = k
                        · rw [e, uI_s]
                        · rw [uI_n _ _ e]
                          exact i4.1 i j1 (by omega), fun i => by
                        by_cases e : i = k
                        · rw [e, uI_s]
                          split <;> omega
                        · rw [uI_n _ _ e]
                          exact i4.2.1 i, fun i hi => by
                        rw [uI_n _ _ (by omega)]
                        exact i4.2.2 i hi⟩
                  · refine Z_iconst 61 rfl ?_
                    refine Z_goto 62 rfl (tgt := 116) rfl ?_
                    refine Z_ci (show _ = bI (mayK p.t b (k + 1)) by first | (rw [bI_t (ms.mpr ⟨c82, fun z => by omega⟩)] <;> rfl) | (rw [bI_f (fun z => c82 (ms.mp z).1)] <;> rfl) | (rw [bI_f (fun z => by have := (ms.mp z).2 (by omega); omega)] <;> rfl)) ?_
                    refine Z_istore_n 64 rfl rfl (Nat.le_of_ble_eq_true rfl) (lv' := [(3, .int _), (5, .int _), (0, .ref _), (1, .int _), (2, .int _), (4, .int _)]) rfl ?_
                    refine Z_aload_n 65 rfl rfl rfl ?_
                    refine Z_get 66 rfl f_M_11 rfl rfl ?_
                    refine Z_iload 67 rfl rfl ?_
                    refine Z_iload 68 rfl rfl ?_
                    refine Z_if_eq 69 rfl (tgt := 132) rfl (by omega) (fun c125 => ?_) (fun c125 => ?_)
                    · refine Z_aload_n 72 rfl rfl rfl ?_
                      refine Z_get 73 rfl f_M_30 rfl rfl ?_
                      refine Z_iload 74 rfl rfl ?_
                      refine Z_ia 75 rfl rfl (by omega) (by decide) ?_
                      refine Z_ci (show _ = (if tbi b k = 1 then 5 else p.t.1 k) by first | (rw [if_pos (by omega)] <;> rfl) | (rw [if_neg (by omega)]; exact t3 (by omega))) ?_
                      refine Z_ias 76 rfl rfl (by omega) (by decide) (mem' := eM ((uI K k (if tbi b k = 1 then 5 else p.t.1 k), p.t.2), p.2) he fa li sl be ov av bl kw sm ma mf mw cj) rfl ?_
                      refine Z_iinc 77 rfl rfl (Nat.le_of_ble_eq_true rfl) (lv' := [(4, .int _), (3, .int _), (5, .int _), (0, .ref _), (1, .int _), (2, .int _)]) rfl ?_
                      refine Z_goto 78 rfl (tgt := 55) rfl ?_
                      refine Z_pick [0, 1, 2, 3, 4] (lv' := [(0, .ref _), (1, .int _), (2, .int _), (3, .int _), (4, .int _)]) rfl ?_
                      exact ih2 (k + 1) _ (by omega) (by omega) (by omega) ⟨fun i j1 j2 => by
                        by_cases e : i = k
                        · rw [e, uI_s]
                        · rw [uI_n _ _ e]
                          exact i4.1 i j1 (by omega), fun i => by
                        by_cases e : i = k
                        · rw [e, uI_s]
                          split <;> omega
                        · rw [uI_n _ _ e]
                          exact i4.2.1 i, fun i hi => by
                        rw [uI_n _ _ (by omega)]
                        exact i4.2.2 i hi⟩
                    · refine Z_iconst 70 rfl ?_
                      refine Z_goto 71 rfl (tgt := 139) rfl ?_
                      refine Z_ci (show _ = (if tbi b k = 1 then 5 else p.t.1 k) by first | (rw [if_pos (by omega)] <;> rfl) | (rw [if_neg (by omega)]; exact t3 (by omega))) ?_
                      refine Z_ias 76 rfl rfl (by omega) (by decide) (mem' := eM ((uI K k (if tbi b k = 1 then 5 else p.t.1 k), p.t.2), p.2) he fa li sl be ov av bl kw sm ma mf mw cj) rfl ?_
                      refine Z_iinc 77 rfl rfl (Nat.le_of_ble_eq_true rfl) (lv' := [(4, .int _), (3, .int _), (5, .int _), (0, .ref _), (1, .int _), (2, .int _)]) rfl ?_
                      refine Z_goto 78 rfl (tgt := 55) rfl ?_
                      refine Z_pick [0, 1, 2, 3, 4] (lv' := [(0, .ref _), (1, .int _), (2, .int _), (3, .int _), (4, .int _)]) rfl ?_
                      exact ih2 (k + 1) _ (by omega) (by omega) (by omega) ⟨fun i j1 j2 => by
                        by_cases e : i = k
                        · rw [e, uI_s]
                        · rw [uI_n _ _ e]
                          exact i4.1 i j1 (by omega), fun i => by
                        by_cases e : i = k
                        · rw [e, uI_s]
                          split <;> omega
                        · rw [uI_n _ _ e]
                          exact i4.2.1 i, fun i hi => by
                        rw [uI_n _ _ (by omega)]
                        exact i4.2.2 i hi⟩
          · refine Z_iconst 42 rfl ?_
            refine Z_goto 43 rfl (tgt := 79) rfl ?_
            refine Z_ci (show _ = tbi b k by omega) ?_
            refine Z_istore 45 rfl (Nat.le_of_ble_eq_true rfl) (lv' := [(5, .int _), (0, .ref _), (1, .int _), (2, .int _), (3, .int _), (4, .int _)]) rfl ?_
            refine Z_iload_n 46 rfl rfl rfl ?_
            refine Z_ifb_eq 47 rfl (tgt := 115) rfl (fun c82 => ?_) (fun c82 => ?_)
            · refine Z_iconst 63 rfl ?_
              refine Z_ci (show _ = bI (mayK p.t b (k + 1)) by first | (rw [bI_t (ms.mpr ⟨c82, fun z => by omega⟩)] <;> rfl) | (rw [bI_f (fun z => c82 (ms.mp z).1)] <;> rfl) | (rw [bI_f (fun z => by have := (ms.mp z).2 (by omega); omega)] <;> rfl)) ?_
              refine Z_istore_n 64 rfl rfl (Nat.le_of_ble_eq_true rfl) (lv' := [(3, .int _), (5, .int _), (0, .ref _), (1, .int _), (2, .int _), (4, .int _)]) rfl ?_
              refine Z_aload_n 65 rfl rfl rfl ?_
              refine Z_get 66 rfl f_M_11 rfl rfl ?_
              refine Z_iload 67 rfl rfl ?_
              refine Z_iload 68 rfl rfl ?_
              refine Z_if_eq 69 rfl (tgt := 132) rfl (by omega) (fun c125 => ?_) (fun c125 => ?_)
              · refine Z_aload_n 72 rfl rfl rfl ?_
                refine Z_get 73 rfl f_M_30 rfl rfl ?_
                refine Z_iload 74 rfl rfl ?_
                refine Z_ia 75 rfl rfl (by omega) (by decide) ?_
                refine Z_ci (show _ = (if tbi b k = 1 then 5 else p.t.1 k) by first | (rw [if_pos (by omega)] <;> rfl) | (rw [if_neg (by omega)]; exact t3 (by omega))) ?_
                refine Z_ias 76 rfl rfl (by omega) (by decide) (mem' := eM ((uI K k (if tbi b k = 1 then 5 else p.t.1 k), p.t.2), p.2) he fa li sl be ov av bl kw sm ma mf mw cj) rfl ?_
                refine Z_iinc 77 rfl rfl (Nat.le_of_ble_eq_true rfl) (lv' := [(4, .int _), (3, .int _), (5, .int _), (0, .ref _), (1, .int _), (2, .int _)]) rfl ?_
                refine Z_goto 78 rfl (tgt := 55) rfl ?_
                refine Z_pick [0, 1, 2, 3, 4] (lv' := [(0, .ref _), (1, .int _), (2, .int _), (3, .int _), (4, .int _)]) rfl ?_
                exact ih2 (k + 1) _ (by omega) (by omega) (by omega) ⟨fun i j1 j2 => by
                  by_cases e : i = k
                  · rw [e, uI_s]
                  · rw [uI_n _ _ e]
                    exact i4.1 i j1 (by omega), fun i => by
                  by_cases e : i = k
                  · rw [e, uI_s]
                    split <;> omega
                  · rw [uI_n _ _ e]
                    exact i4.2.1 i, fun i hi => by
                  rw [uI_n _ _ (by omega)]
                  exact i4.2.2 i hi⟩
              · refine Z_iconst 70 rfl ?_
                refine Z_goto 71 rfl (tgt := 139) rfl ?_
                refine Z_ci (show _ = (if tbi b k = 1 then 5 else p.t.1 k) by first | (rw [if_pos (by omega)] <;> rfl) | (rw [if_neg (by omega)]; exact t3 (by omega))) ?_
                refine Z_ias 76 rfl rfl (by omega) (by decide) (mem' := eM ((uI K k (if tbi b k = 1 then 5 else p.t.1 k), p.t.2), p.2) he fa li sl be ov av bl kw sm ma mf mw cj) rfl ?_
                refine Z_iinc 77 rfl rfl (Nat.le_of_ble_eq_true rfl) (lv' := [(4, .int _), (3, .int _), (5, .int _), (0, .ref _), (1, .int _), (2, .int _)]) rfl ?_
                refine Z_goto 78 rfl (tgt := 55) rfl ?_
                refine Z_pick [0, 1, 2, 3, 4] (lv' := [(0, .ref _), (1, .int _), (2, .int _), (3, .int _), (4, .int _)]) rfl ?_
                exact ih2 (k + 1) _ (by omega) (by omega) (by omega) ⟨fun i j1 j2 => by
                  by_cases e : i = k
                  · rw [e, uI_s]
                  · rw [uI_n _ _ e]
                    exact i4.1 i j1 (by omega), fun i => by
                  by_cases e : i = k
                  · rw [e, uI_s]
                    split <;> omega
                  · rw [uI_n _ _ e]
                    exact i4.2.1 i, fun i hi => by
                  rw [uI_n _ _ (by omega)]
                  exact i4.2.2 i hi⟩
            · refine Z_iload 48 rfl rfl ?_
              refine Z_if_eq 49 rfl (tgt := 111) rfl (by omega) (fun c87 => ?_) (fun c87 => ?_)
              · refine Z_iconst 61 rfl ?_
                refine Z_goto 62 rfl (tgt := 116) rfl ?_
                refine Z_ci (show _ = bI (mayK p.t b (k + 1)) by first | (rw [bI_t (ms.mpr ⟨c82, fun z => by omega⟩)] <;> rfl) | (rw [bI_f (fun z => c82 (ms.mp z).1)] <;> rfl) | (rw [bI_f (fun z => by have := (ms.mp z).2 (by omega); omega)] <;> rfl)) ?_
                refine Z_istore_n 64 rfl rfl (Nat.le_of_ble_eq_true rfl) (lv' := [(3, .int _), (5, .int _), (0, .ref _), (1, .int _), (2, .int _), (4, .int _)]) rfl ?_
                refine Z_aload_n 65 rfl rfl rfl ?_
                refine Z_get 66 rfl f_M_11 rfl rfl ?_
                refine Z_iload 67 rfl rfl ?_
                refine Z_iload 68 rfl rfl ?_
                refine Z_if_eq 69 rfl (tgt := 132) rfl (by omega) (fun c125 => ?_) (fun c125 => ?_)
                · refine Z_aload_n 72 rfl rfl rfl ?_
                  refine Z_get 73 rfl f_M_30 rfl rfl ?_
                  refine Z_iload 74 rfl rfl ?_
                  refine Z_ia 75 rfl rfl (by omega) (by decide) ?_
                  refine Z_ci (show _ = (if tbi b k = 1 then 5 else p.t.1 k) by first | (rw [if_pos (by omega)] <;> rfl) | (rw [if_neg (by omega)]; exact t3 (by omega))) ?_
                  refine Z_ias 76 rfl rfl (by omega) (by decide) (mem' := eM ((uI K k (if tbi b k = 1 then 5 else p.t.1 k), p.t.2), p.2) he fa li sl be ov av bl kw sm ma mf mw cj) rfl ?_
                  refine Z_iinc 77 rfl rfl (Nat.le_of_ble_eq_true rfl) (lv' := [(4, .int _), (3, .int _), (5, .int _), (0, .ref _), (1, .int _), (2, .int _)]) rfl ?_
                  refine Z_goto 78 rfl (tgt := 55) rfl ?_
                  refine Z_pick [0, 1, 2, 3, 4] (lv' := [(0, .ref _), (1, .int _), (2, .int _), (3, .int _), (4, .int _)]) rfl ?_
                  exact ih2 (k + 1) _ (by omega) (by omega) (by omega) ⟨fun i j1 j2 => by
                    by_cases e : i = k
                    · rw [e, uI_s]
                    · rw [uI_n _ _ e]
                      exact i4.1 i j1 (by omega), fun i => by
                    by_cases e : i = k
                    · rw [e, uI_s]
                      split <;> omega
                    · rw [uI_n _ _ e]
                      exact i4.2.1 i, fun i hi => by
                    rw [uI_n _ _ (by omega)]
                    exact i4.2.2 i hi⟩
                · refine Z_iconst 70 rfl ?_
                  refine Z_goto 71 rfl (tgt := 139) rfl ?_
                  refine Z_ci (show _ = (if tbi b k = 1 then 5 else p.t.1 k) by first | (rw [if_pos (by omega)] <;> rfl) | (rw [if_neg (by omega)]; exact t3 (by omega))) ?_
                  refine Z_ias 76 rfl rfl (by omega) (by decide) (mem' := eM ((uI K k (if tbi b k = 1 then 5 else p.t.1 k), p.t.2), p.2) he fa li sl be ov av bl kw sm ma mf mw cj) rfl ?_
                  refine Z_iinc 77 rfl rfl (Nat.le_of_ble_eq_true rfl) (lv' := [(4, .int _), (3, .int _), (5, .int _), (0, .ref _), (1, .int _), (2, .int _)]) rfl ?_
                  refine Z_goto 78 rfl (tgt := 55) rfl ?_
                  refine Z_pick [0, 1, 2, 3, 4] (lv' := [(0, .ref _), (1, .int _), (2, .int _), (3, .int _), (4, .int _)]) rfl ?_
                  exact ih2 (k + 1) _ (by omega) (by omega) (by omega) ⟨fun i j1 j2 => by
                    by_cases e : i = k
                    · rw [e, uI_s]
                    · rw [uI_n _ _ e]
                      exact i4.1 i j1 (by omega), fun i => by
                    by_cases e : i = k
                    · rw [e, uI_s]
                      split <;> omega
                    · rw [uI_n _ _ e]
                      exact i4.2.1 i, fun i hi => by
                    rw [uI_n _ _ (by omega)]
                    exact i4.2.2 i hi⟩
              · refine Z_aload_n 50 rfl rfl rfl ?_
                refine Z_get 51 rfl f_M_30 rfl rfl ?_
                refine Z_iload 52 rfl rfl ?_
                skip
                refine Z_ia 53 rfl rfl (by omega) (by decide) ?_
                refine Z_ci (t3 (by omega)) ?_
                refine Z_if_eq 54 rfl (tgt := 115) rfl (by omega) (fun c97 => ?_) (fun c97 => ?_)
                · refine Z_iconst 63 rfl ?_
                  refine Z_ci (show _ = bI (mayK p.t b (k + 1)) by first | (rw [bI_t (ms.mpr ⟨c82, fun z => by omega⟩)] <;> rfl) | (rw [bI_f (fun z => c82 (ms.mp z).1)] <;> rfl) | (rw [bI_f (fun z => by have := (ms.mp z).2 (by omega); omega)] <;> rfl)) ?_
                  refine Z_istore_n 64 rfl rfl (Nat.le_of_ble_eq_true rfl) (lv' := [(3, .int _), (5, .int _), (0, .ref _), (1, .int _), (2, .int _), (4, .int _)]) rfl ?_
                  refine Z_aload_n 65 rfl rfl rfl ?_
                  refine Z_get 66 rfl f_M_11 rfl rfl ?_
                  refine Z_iload 67 rfl rfl ?_
                  refine Z_iload 68 rfl rfl ?_
                  refine Z_if_eq 69 rfl (tgt := 132) rfl (by omega) (fun c125 => ?_) (fun c125 => ?_)
                  · refine Z_aload_n 72 rfl rfl rfl ?_
                    refine Z_get 73 rfl f_M_30 rfl rfl ?_
                    refine Z_iload 74 rfl rfl ?_
                    refine Z_ia 75 rfl rfl (by omega) (by decide) ?_
                    refine Z_ci (show _ = (if tbi b k = 1 then 5 else p.t.1 k) by first | (rw [if_pos (by omega)] <;> rfl) | (rw [if_neg (by omega)]; exact t3 (by omega))) ?_
                    refine Z_ias 76 rfl rfl (by omega) (by decide) (mem' := eM ((uI K k (if tbi b k = 1 then 5 else p.t.1 k), p.t.2), p.2) he fa li sl be ov av bl kw sm ma mf mw cj) rfl ?_
                    refine Z_iinc 77 rfl rfl (Nat.le_of_ble_eq_true rfl) (lv' := [(4, .int _), (3, .int _), (5, .int _), (0, .ref _), (1, .int _), (2, .int _)]) rfl ?_
                    refine Z_goto 78 rfl (tgt := 55) rfl ?_
                    refine Z_pick [0, 1, 2, 3, 4] (lv' := [(0, .ref _), (1, .int _), (2, .int _), (3, .int _), (4, .int _)]) rfl ?_
                    exact ih2 (k + 1) _ (by omega) (by omega) (by omega) ⟨fun i j1 j2 => by
                      by_cases e : i = k
                      · rw [e, uI_s]
                      · rw [uI_n _ _ e]
                        exact i4.1 i j1 (by omega), fun i => by
                      by_cases e : i = k
                      · rw [e, uI_s]
                        split <;> omega
                      · rw [uI_n _ _ e]
                        exact i4.2.1 i, fun i hi => by
                      rw [uI_n _ _ (by omega)]
                      exact i4.2.2 i hi⟩
                  · refine Z_iconst 70 rfl ?_
                    refine Z_goto 71 rfl (tgt := 139) rfl ?_
                    refine Z_ci (show _ = (if tbi b k = 1 then 5 else p.t.1 k) by first | (rw [if_pos (by omega)] <;> rfl) | (rw [if_neg (by omega)]; exact t3 (by omega))) ?_
                    refine Z_ias 76 rfl rfl (by omega) (by decide) (mem' := eM ((uI K k (if tbi b k = 1 then 5 else p.t.1 k), p.t.2), p.2) he fa li sl be ov av bl kw sm ma mf mw cj) rfl ?_
                    refine Z_iinc 77 rfl rfl (Nat.le_of_ble_eq_true rfl) (lv' := [(4, .int _), (3, .int _), (5, .int _), (0, .ref _), (1, .int _), (2, .int _)]) rfl ?_
                    refine Z_goto 78 rfl (tgt := 55) rfl ?_
                    refine Z_pick [0, 1, 2, 3, 4] (lv' := [(0, .ref _), (1, .int _), (2, .int _), (3, .int _), (4, .int _)]) rfl ?_
                    exact ih2 (k + 1) _ (by omega) (by omega) (by omega) ⟨fun i j1 j2 => by
                      by_cases e : i = k
                      · rw [e, uI_s]
                      · rw [uI_n _ _ e]
                        exact i4.1 i j1 (by omega), fun i => by
                      by_cases e : i = k
                      · rw [e, uI_s]
                        split <;> omega
                      · rw [uI_n _ _ e]
                        exact i4.2.1 i, fun i hi => by
                      rw [uI_n _ _ (by omega)]
                      exact i4.2.2 i hi⟩
                · refine Z_aload_n 55 rfl rfl rfl ?_
                  refine Z_get 56 rfl f_M_30 rfl rfl ?_
                  refine Z_iload 57 rfl rfl ?_
                  refine Z_ia 58 rfl rfl (by omega) (by decide) ?_
                  refine Z_ci (t3 (by omega)) ?_
                  refine Z_iconst 59 rfl ?_
                  refine Z_icmp_eq 60 rfl (tgt := 115) rfl (by omega) (by omega) (fun c108 => ?_) (fun c108 => ?_)
                  · refine Z_iconst 63 rfl ?_
                    refine Z_ci (show _ = bI (mayK p.t b (k + 1)) by first | (rw [bI_t (ms.mpr ⟨c82, fun z => by omega⟩)] <;> rfl) | (rw [bI_f (fun z => c82 (ms.mp z).1)] <;> rfl) | (rw [bI_f (fun z => by have := (ms.mp z).2 (by omega); omega)] <;> rfl)) ?_
                    refine Z_istore_n 64 rfl rfl (Nat.le_of_ble_eq_true rfl) (lv' := [(3, .int _), (5, .int _), (0, .ref _), (1, .int _), (2, .int _), (4, .int _)]) rfl ?_
                    refine Z_aload_n 65 rfl rfl rfl ?_
                    refine Z_get 66 rfl f_M_11 rfl rfl ?_
                    refine Z_iload 67 rfl rfl ?_
                    refine Z_iload 68 rfl rfl ?_
                    refine Z_if_eq 69 rfl (tgt := 132) rfl (by omega) (fun c125 => ?_) (fun c125 => ?_)
                    · refine Z_aload_n 72 rfl rfl rfl ?_
                      refine Z_get 73 rfl f_M_30 rfl rfl ?_
                      refine Z_iload 74 rfl rfl ?_
                      refine Z_ia 75 rfl rfl (by omega) (by decide) ?_
                      refine Z_ci (show _ = (if tbi b k = 1 then 5 else p.t.1 k) by first | (rw [if_pos (by omega)] <;> rfl) | (rw [if_neg (by omega)]; exact t3 (by omega))) ?_
                      refine Z_ias 76 rfl rfl (by omega) (by decide) (mem' := eM ((uI K k (if tbi b k = 1 then 5 else p.t.1 k), p.t.2), p.2) he fa li sl be ov av bl kw sm ma mf mw cj) rfl ?_
                      refine Z_iinc 77 rfl rfl (Nat.le_of_ble_eq_true rfl) (lv' := [(4, .int _), (3, .int _), (5, .int _), (0, .ref _), (1, .int _), (2, .int _)]) rfl ?_
                      refine Z_goto 78 rfl (tgt := 55) rfl ?_
                      refine Z_pick [0, 1, 2, 3, 4] (lv' := [(0, .ref _), (1, .int _), (2, .int _), (3, .int _), (4, .int _)]) rfl ?_
                      exact ih2 (k + 1) _ (by omega) (by omega) (by omega) ⟨fun i j1 j2 => by
                        by_cases e : i = k
                        · rw [e, uI_s]
                        · rw [uI_n _ _ e]
                          exact i4.1 i j1 (by omega), fun i => by
                        by_cases e : i = k
                        · rw [e, uI_s]
                          split <;> omega
                        · rw [uI_n _ _ e]
                          exact i4.2.1 i, fun i hi => by
                        rw [uI_n _ _ (by omega)]
                        exact i4.2.2 i hi⟩
                    · refine Z_iconst 70 rfl ?_
                      refine Z_goto 71 rfl (tgt := 139) rfl ?_
                      refine Z_ci (show _ = (if tbi b k = 1 then 5 else p.t.1 k) by first | (rw [if_pos (by omega)] <;> rfl) | (rw [if_neg (by omega)]; exact t3 (by omega))) ?_
                      refine Z_ias 76 rfl rfl (by omega) (by decide) (mem' := eM ((uI K k (if tbi b k = 1 then 5 else p.t.1 k), p.t.2), p.2) he fa li sl be ov av bl kw sm ma mf mw cj) rfl ?_
                      refine Z_iinc 77 rfl rfl (Nat.le_of_ble_eq_true rfl) (lv' := [(4, .int _), (3, .int _), (5, .int _), (0, .ref _), (1, .int _), (2, .int _)]) rfl ?_
                      refine Z_goto 78 rfl (tgt := 55) rfl ?_
                      refine Z_pick [0, 1, 2, 3, 4] (lv' := [(0, .ref _), (1, .int _), (2, .int _), (3, .int _), (4, .int _)]) rfl ?_
                      exact ih2 (k + 1) _ (by omega) (by omega) (by omega) ⟨fun i j1 j2 => by
                        by_cases e : i = k
                        · rw [e, uI_s]
                        · rw [uI_n _ _ e]
                          exact i4.1 i j1 (by omega), fun i => by
                        by_cases e : i = k
                        · rw [e, uI_s]
                          split <;> omega
                        · rw [uI_n _ _ e]
                          exact i4.2.1 i, fun i hi => by
                        rw [uI_n _ _ (by omega)]
                        exact i4.2.2 i hi⟩
                  · refine Z_iconst 61 rfl ?_
                    refine Z_goto 62 rfl (tgt := 116) rfl ?_
                    refine Z_ci (show _ = bI (mayK p.t b (k + 1)) by first | (rw [bI_t (ms.mpr ⟨c82, fun z => by omega⟩)] <;> rfl) | (rw [bI_f (fun z => c82 (ms.mp z).1)] <;> rfl) | (rw [bI_f (fun z => by have := (ms.mp z).2 (by omega); omega)] <;> rfl)) ?_
                    refine Z_istore_n 64 rfl rfl (Nat.le_of_ble_eq_true rfl) (lv' := [(3, .int _), (5, .int _), (0, .ref _), (1, .int _), (2, .int _), (4, .int _)]) rfl ?_
                    refine Z_aload_n 65 rfl rfl rfl ?_
                    refine Z_get 66 rfl f_M_11 rfl rfl ?_
                    refine Z_iload 67 rfl rfl ?_
                    refine Z_iload 68 rfl rfl ?_
                    refine Z_if_eq 69 rfl (tgt := 132) rfl (by omega) (fun c125 => ?_) (fun c125 => ?_)
                    · refine Z_aload_n 72 rfl rfl rfl ?_
                      refine Z_get 73 rfl f_M_30 rfl rfl ?_
                      refine Z_iload 74 rfl rfl ?_
                      refine Z_ia 75 rfl rfl (by omega) (by decide) ?_
                      refine Z_ci (show _ = (if tbi b k = 1 then 5 else p.t.1 k) by first | (rw [if_pos (by omega)] <;> rfl) | (rw [if_neg (by omega)]; exact t3 (by omega))) ?_
                      refine Z_ias 76 rfl rfl (by omega) (by decide) (mem' := eM ((uI K k (if tbi b k = 1 then 5 else p.t.1 k), p.t.2), p.2) he fa li sl be ov av bl kw sm ma mf mw cj) rfl ?_
                      refine Z_iinc 77 rfl rfl (Nat.le_of_ble_eq_true rfl) (lv' := [(4, .int _), (3, .int _), (5, .int _), (0, .ref _), (1, .int _), (2, .int _)]) rfl ?_
                      refine Z_goto 78 rfl (tgt := 55) rfl ?_
                      refine Z_pick [0, 1, 2, 3, 4] (lv' := [(0, .ref _), (1, .int _), (2, .int _), (3, .int _), (4, .int _)]) rfl ?_
                      exact ih2 (k + 1) _ (by omega) (by omega) (by omega) ⟨fun i j1 j2 => by
                        by_cases e : i = k
                        · rw [e, uI_s]
                        · rw [uI_n _ _ e]
                          exact i4.1 i j1 (by omega), fun i => by
                        by_cases e : i = k
                        · rw [e, uI_s]
                          split <;> omega
                        · rw [uI_n _ _ e]
                          exact i4.2.1 i, fun i hi => by
                        rw [uI_n _ _ (by omega)]
                        exact i4.2.2 i hi⟩
                    · refine Z_iconst 70 rfl ?_
                      refine Z_goto 71 rfl (tgt := 139) rfl ?_
                      refine Z_ci (show _ = (if tbi b k = 1 then 5 else p.t.1 k) by first | (rw [if_pos (by omega)] <;> rfl) | (rw [if_neg (by omega)]; exact t3 (by omega))) ?_
                      refine Z_ias 76 rfl rfl (by omega) (by decide) (mem' := eM ((uI K k (if tbi b k = 1 then 5 else p.t.1 k), p.t.2), p.2) he fa li sl be ov av bl kw sm ma mf mw cj) rfl ?_
                      refine Z_iinc 77 rfl rfl (Nat.le_of_ble_eq_true rfl) (lv' := [(4, .int _), (3, .int _), (5, .int _), (0, .ref _), (1, .int _), (2, .int _)]) rfl ?_
                      refine Z_goto 78 rfl (tgt := 55) rfl ?_
                      refine Z_pick [0, 1, 2, 3, 4] (lv' := [(0, .ref _), (1, .int _), (2, .int _), (3, .int _), (4, .int _)]) rfl ?_
                      exact ih2 (k + 1) _ (by omega) (by omega) (by omega) ⟨fun i j1 j2 => by
                        by_cases e : i = k
                        · rw [e, uI_s]
                        · rw [uI_n _ _ e]
                          exact i4.1 i j1 (by omega), fun i => by
                        by_cases e : i = k
                        · rw [e, uI_s]
                          split <;> omega
                        · rw [uI_n _ _ e]
                          exact i4.2.1 i, fun i hi => by
                        rw [uI_n _ _ (by omega)]
                        exact i4.2.2 i hi⟩
    refine Z_iload_n 12 rfl rfl rfl ?_
    refine Z_iconst 13 rfl ?_
    refine Z_aload_n 14 rfl rfl rfl ?_
    refine Z_get 15 rfl f_M_77 rfl rfl ?_
    refine Z_ci (show _ = p.t.2.2.2 from rfl) ?_
    refine Z_ishl 16 rfl ?_
    refine Z_ti hp.1 ?_
    refine Z_icmp_ge 17 rfl (tgt := 165) rfl (by omega) (by omega) (fun c27 => ?_) (fun c27 => ?_)
    · refine Z_aload_n 88 rfl rfl rfl ?_
      refine Z_get 89 rfl f_M_30 rfl rfl ?_
      refine Z_iconst 90 rfl ?_
      refine Z_aload_n 91 rfl rfl rfl ?_
      refine Z_get 92 rfl f_M_11 rfl rfl ?_
      refine Z_iconst 93 rfl ?_
      refine Z_bipush 94 rfl rfl ?_
      refine Z_copy 95 rfl l_M_277 b_nt_copy b_st_copy b_ini_Sys rfl rfl (by omega) (Nat.le_of_ble_eq_true rfl) (Nat.le_of_ble_eq_true rfl) (mem' := eM ((cpI kw K 12, p.t.2), p.2) he fa li sl be ov av bl kw sm ma mf mw cj) rfl ?_
      refine Z_iload_n 96 rfl rfl rfl ?_
      refine Z_iret 97 rfl rfl ⟨Nat.le_refl _, Nat.le_refl _⟩ ?_
      have hcp : cpI kw K 12 = p.t.1 := by
        funext i
        unfold cpI
        by_cases z : 0 ≤ i ∧ i < 12
        · rw [if_pos z]; exact hkw i z.1 z.2
        · rw [if_neg z]; exact h6.2.2 i (by omega)
      rw [hcp]
      exact ⟨by rw [smF_eq ⟨few, show smI (okS p.t) (p2 p.t.2.2.2) best few by rw [show p2 p.t.2.2.2 = b by omega]; exact h5⟩], kw, _, _, _, _, _, _, _, _, rfl⟩
    · refine Z_iload_n 18 rfl rfl rfl ?_
      refine Z_bipush 19 rfl rfl ?_
      refine Z_icmp_eq 20 rfl (tgt := 50) rfl (by omega) (by omega) (fun c33 => ?_) (fun c33 => ?_)
      · refine Z_iconst 27 rfl ?_
        refine Z_istore_n 28 rfl rfl (Nat.le_of_ble_eq_true rfl) (lv' := [(3, .int _), (0, .ref _), (1, .int _), (2, .int _)]) rfl ?_
        refine Z_iconst 29 rfl ?_
        refine Z_istore 30 rfl (Nat.le_of_ble_eq_true rfl) (lv' := [(4, .int _), (3, .int _), (0, .ref _), (1, .int _), (2, .int _)]) rfl ?_
        refine Z_pick [0, 1, 2, 3, 4] (lv' := [(0, .ref _), (1, .int _), (2, .int _), (3, .int _), (4, .int _)]) rfl ?_
        have hz := inner (by omega) (by omega) 13 0 K (by omega) (by omega) (by omega) ⟨fun i j1 j2 => by omega, h6.2⟩
        rw [bI_t (show mayK p.t b 0 from fun i i1 i2 => by omega)] at hz
        exact hz
      · refine Z_iload_n 21 rfl rfl rfl ?_
        refine Z_callSip (M' := M_M_bits) 22 [] rfl l_M_283 C_M_bits (c_M_bits l b h2) ⟨List.nodup_nil, zEL.n⟩ rfl rfl rfl (Nat.le_of_ble_eq_true rfl) ⟨rfl, rfl, Nat.le_of_ble_eq_true rfl, Nat.le_of_ble_eq_true rfl⟩ ⟨Nat.zero_le _, Nat.zero_le _⟩ ?_
        refine Z_iload_n 23 rfl rfl rfl ?_
        refine Z_callSip (M' := M_M_bits) 24 [] rfl l_M_283 C_M_bits (c_M_bits l best (by omega)) ⟨List.nodup_nil, zEL.n⟩ rfl rfl rfl (Nat.le_of_ble_eq_true rfl) ⟨rfl, rfl, Nat.le_of_ble_eq_true rfl, Nat.le_of_ble_eq_true rfl⟩ ⟨Nat.zero_le _, Nat.zero_le _⟩ ?_
        refine Z_icmp_lt 25 rfl (tgt := 50) rfl (by omega) (by omega) (fun c44 => ?_) (fun c44 => ?_)
        · refine Z_iconst 27 rfl ?_
          refine Z_istore_n 28 rfl rfl (Nat.le_of_ble_eq_true rfl) (lv' := [(3, .int _), (0, .ref _), (1, .int _), (2, .int _)]) rfl ?_
          refine Z_iconst 29 rfl ?_
          refine Z_istore 30 rfl (Nat.le_of_ble_eq_true rfl) (lv' := [(4, .int _), (3, .int _), (0, .ref _), (1, .int _), (2, .int _)]) rfl ?_
          refine Z_pick [0, 1, 2, 3, 4] (lv' := [(0, .ref _), (1, .int _), (2, .int _), (3, .int _), (4, .int _)]) rfl ?_
          have hz := inner (by omega) (by omega) 13 0 K (by omega) (by omega) (by omega) ⟨fun i j1 j2 => by omega, h6.2⟩
          rw [bI_t (show mayK p.t b 0 from fun i i1 i2 => by omega)] at hz
          exact hz
        · refine Z_goto 26 rfl (tgt := 159) rfl ?_
          refine Z_iinc 86 rfl rfl (Nat.le_of_ble_eq_true rfl) (lv' := [(2, .int _), (0, .ref _), (1, .int _)]) rfl ?_
          refine Z_goto 87 rfl (tgt := 20) rfl ?_
          refine Z_pick [0, 1, 2] (lv' := [(0, .ref _), (1, .int _), (2, .int _)]) rfl ?_
          exact ih (b + 1) best few _ _ _ _ _ _ _ _ _ (by omega) (by omega) (by omega) (smI_skip h2 h5 (Or.inr (by omega))) h6
theorem c_M_smoothed (h : MV p) (kw : Int → Int) (he fa li sl be ov av bl : Int) : Con l M_M_smoothed R_M_smoothed 0 0 false [.ref 0] (eM p he fa li sl be ov av bl kw sm ma mf mw cj) (zAi (smF p.t) (fun m => ∃ kw', LJ p kw' sm ma mf mw cj m)) := by
  have h1 := h.1.1.1
  refine Con.of_Z (by decide) D_M_smoothed (Nat.le_of_ble_eq_true rfl) ?_
  refine Z_aload_n 0 rfl rfl rfl ?_
  refine Z_get 1 rfl f_M_11 rfl rfl ?_
  refine Z_iconst 2 rfl ?_
  refine Z_aload_n 3 rfl rfl rfl ?_
  refine Z_get 4 rfl f_M_30 rfl rfl ?_
  refine Z_iconst 5 rfl ?_
  refine Z_bipush 6 rfl rfl ?_
  refine Z_copy 7 rfl l_M_277 b_nt_copy b_st_copy b_ini_Sys rfl rfl (by omega) (Nat.le_of_ble_eq_true rfl) (Nat.le_of_ble_eq_true rfl) (mem' := eM p he fa li sl be ov av bl (cpI p.t.1 kw 12) sm ma mf mw cj) rfl ?_
  refine Z_bipush 8 rfl rfl ?_
  refine Z_istore_n 9 rfl rfl (Nat.le_of_ble_eq_true rfl) (lv' := [(1, .int _), (0, .ref _)]) rfl ?_
  refine Z_iconst 10 rfl ?_
  refine Z_istore_n 11 rfl rfl (Nat.le_of_ble_eq_true rfl) (lv' := [(2, .int _), (1, .int _), (0, .ref _)]) rfl ?_
  refine Z_pick [0, 1, 2] (lv' := [(0, .ref _), (1, .int _), (2, .int _)]) rfl ?_
  exact lp_M_smoothed l p sm ma mf mw cj h (cpI p.t.1 kw 12) (fun i i1 i2 => by unfold cpI; rw [if_pos ⟨i1, i2⟩]) 4097 0 (-5) 13 p.t.1 _ _ _ _ _ _ _ _ (by omega) (by have := (p2_sh h1).2; omega) (by have := (p2_sh h1).2; omega) (Or.inl ⟨rfl, rfl, fun c c1 c2 => by omega⟩) ⟨fun i i1 i2 => by omega, h.1.1.2.1, fun _ _ => rfl⟩
end M10
