/-! the model: the extremes -/
theorem id_lt {x o A B : Int} (h : x = A ∧ o = A + B) (hb : 0 < B) : x < o := by omega
theorem shr_lt {k u L : Int} (hk : 0 ≤ k ∧ k ≤ 5) (hu : 0 ≤ u ∧ u < L) : shr k u L < o5 L := by
  obtain ⟨v, rfl⟩ : ∃ v, L = u + v := ⟨L - u, by omega⟩
  have hv0 : 0 < v := by omega
  have hL0 : 0 < u + v := by omega
  have L2 := Int.mul_pos hL0 hL0
  have L3 := Int.mul_pos L2 hL0
  have L4 := Int.mul_pos L3 hL0
  have u2 := Int.mul_nonneg hu.1 hu.1
  have v2 := Int.mul_pos hv0 hv0
  have v3 := Int.mul_pos v2 hv0
  have uv := Int.mul_nonneg hu.1 (show 0 ≤ v by omega)
  refine kd_cases (P := fun k => shr k u (u + v) < o5 (u + v)) hk ?_ ?_ ?_ ?_ ?_ ?_
  · show (0 : Int) < _
    exact Int.mul_pos L4 hL0
  · exact id_lt (id1 u v) (Int.mul_pos hv0 L4)
  · exact id_lt (id2 u v) (Int.mul_pos (by omega) L3)
  · exact id_lt (id3 u v) (Int.mul_pos v2 L3)
  · exact id_lt (id4 u v) (Int.mul_pos (Int.mul_pos v2 (by omega)) L2)
  · exact id_lt (id5 u v) (Int.mul_pos v3 (by omega))
theorem shr_0 (k L : Int) : shr k 0 L = 0 := by
  unfold shr o5
  simp
theorem shr_1 {k L : Int} (hk : 1 ≤ k ∧ k ≤ 5) : shr k L L = o5 L := by
  rcases (show k = 1 ∨ k = 2 ∨ k = 3 ∨ k = 4 ∨ k = 5 by omega) with e | e | e | e | e <;> subst e <;> simp [shr, o5] <;> grind
/-- the side from which an angle is looked at -/
def si (a : Int) : Int := if a = 0 then 1 else 0
theorem mp_0 (t : TT) (k : Int) : mpL t k 0 = ah t k * mpO t k := by
  unfold mpL mpO
  rw [shr_0]
  omega
theorem mp_1 {t : TT} (h : TV t) {k : Int} (hk : 0 ≤ k ∧ k < t.2.2.2) : mpL t k (t.2.1 k) = ah t (k + 1) * mpO t k := by
  have hm := h.2.2 k hk.1 hk.2
  unfold mb at hm
  unfold mpL mpO
  rw [ah_s t hk.1]
  by_cases z : t.1 k = 0
  · have : t.2.2.1 k = 0 := by omega
    rw [this]
    grind
  · rw [shr_1 (by omega)]
    grind
theorem At_si {t : TT} (h : TV t) {a k u : Int} (hA : At t a (si a) k u) : 0 ≤ k ∧ k < t.2.2.2 ∧ 0 ≤ u ∧ u ≤ t.2.1 k ∧ a = bg t k + u := by
  have hI := At_in h hA
  unfold si at hA
  rcases hA with ⟨z1, z2, z3, z4⟩ | ⟨z1, z2, z3⟩
  · exact ⟨z1, z2, hI.2.1.1, hI.2.1.2, z3⟩
  · have hl := TV_L h (Int.le_refl 0) z2
    have b := bg_mono h.1 (show 0 ≤ (0 : Int) + 1 by omega) (show 0 + 1 ≤ t.2.2.2 by omega)
    rw [bg_s t (Int.le_refl 0), bg_0] at b
    have e : tot t = bg t t.2.2.2 := rfl
    exfalso
    split at z3 <;> omega
theorem si_all {t : TT} (h : TV t) (hn : 0 < t.2.2.2) {a : Int} (ha : 0 ≤ a ∧ a ≤ tot t) : ∃ k u, At t a (si a) k u := by
  have e : tot t = bg t t.2.2.2 := rfl
  have key : ∀ d : Nat, (d : Int) ≤ t.2.2.2 → a ≤ bg t d → ∃ k u, At t a (si a) k u := by
    intro d
    induction d with
    | zero =>
      intro d1 d2
      have d2' : a ≤ bg t 0 := d2
      rw [bg_0] at d2'
      have ez : a = 0 := by omega
      have hl := TV_L h (Int.le_refl 0) hn
      refine ⟨0, 0, Or.inl ⟨Int.le_refl 0, hn, ?_, Or.inr ⟨?_, Int.le_refl 0, by omega⟩⟩⟩
      · rw [bg_0]; omega
      · unfold si; rw [if_pos ez]
    | succ d ih =>
      intro d1 d2
      rcases Int.lt_or_le (bg t d) a with z | z
      · have e2 := bg_s t (show (0 : Int) ≤ d by omega)
        have b := bg_mono h.1 (Int.le_refl 0) (show (0 : Int) ≤ d by omega)
        rw [bg_0] at b
        have d2' : a ≤ bg t ((d : Int) + 1) := d2
        refine ⟨d, a - bg t d, Or.inl ⟨by omega, by omega, by omega, Or.inl ⟨?_, by omega, by omega⟩⟩⟩
        unfold si
        rw [if_neg (by omega)]
      · exact ih (by omega) z
  exact key t.2.2.2.toNat (by omega) (by rw [Int.toNat_of_nonneg (by omega)]; omega)
/-- what a look finds there lies at or below where a piece begins or ends -/
theorem ex_dom {t : TT} (h : TV t) {sg a k u : Int} (hs : sg = 1 ∨ sg = -1) (hA : At t a (si a) k u) : ∃ j, 0 ≤ j ∧ j ≤ t.2.2.2 ∧ (sg * mpL t k u < sg * ah t j * mpO t k ∨ (sg * mpL t k u = sg * ah t j * mpO t k ∧ bg t j ≤ a)) := by
  obtain ⟨k0, k1, u0, u1, ea⟩ := At_si h hA
  have hm := h.2.2 k k0 k1
  unfold mb at hm
  have hbo := (mp_bd h ⟨k0, k1⟩ ⟨u0, u1⟩).2.2.2
  have hsb := shr_bd hm.1 hm.2.1.1 ⟨u0, u1⟩
  have eL : sg * mpL t k u = sg * ah t k * mpO t k + sg * t.2.2.1 k * shr (t.1 k) u (t.2.1 k) := by
    unfold mpL mpO
    grind
  have eA : sg * ah t (k + 1) * mpO t k = sg * ah t k * mpO t k + sg * t.2.2.1 k * mpO t k := by
    rw [ah_s t k0]
    grind
  by_cases c1 : sg * t.2.2.1 k ≤ 0
  · have := Int.mul_nonpos_of_nonpos_of_nonneg c1 hsb.1
    exact ⟨k, k0, by omega, by omega⟩
  · by_cases c2 : u = t.2.1 k
    · refine ⟨k + 1, by omega, by omega, Or.inr ⟨?_, ?_⟩⟩
      · rw [c2, mp_1 h ⟨k0, k1⟩]
        grind
      · rw [bg_s t k0]
        omega
    · have hlt := shr_lt hm.1 (show 0 ≤ u ∧ u < t.2.1 k by omega)
      have := Int.mul_lt_mul_of_pos_left hlt (show 0 < sg * t.2.2.1 k by omega)
      have e : mpO t k = o5 (t.2.1 k) := rfl
      rw [← e] at this
      exact ⟨k + 1, by omega, by omega, Or.inl (by omega)⟩
/-- where a piece begins or ends, a look finds it -/
theorem ex_at {t : TT} (h : TV t) (hn : 0 < t.2.2.2) {j : Int} (hj : 0 ≤ j ∧ j ≤ t.2.2.2) : ∃ k u, At t (bg t j) (si (bg t j)) k u ∧ mpL t k u = ah t j * mpO t k ∧ (0 ≤ bg t j ∧ bg t j ≤ tot t) := by
  by_cases z : j = 0
  · rw [z]
    have hl := TV_L h (Int.le_refl 0) hn
    have hA : At t (bg t 0) (si (bg t 0)) 0 0 := by
      refine Or.inl ⟨Int.le_refl 0, hn, by omega, Or.inr ⟨?_, Int.le_refl 0, by omega⟩⟩
      unfold si
      rw [bg_0, if_pos rfl]
    exact ⟨0, 0, hA, mp_0 t 0, (At_in h hA).2.2.1⟩
  · have e := bg_s t (show 0 ≤ j - 1 by omega)
    rw [show j - 1 + 1 = j by omega] at e
    have hl := TV_L h (show 0 ≤ j - 1 by omega) (show j - 1 < t.2.2.2 by omega)
    have b := bg_mono h.1 (Int.le_refl 0) (show 0 ≤ j - 1 by omega)
    rw [bg_0] at b
    have hA : At t (bg t j) (si (bg t j)) (j - 1) (t.2.1 (j - 1)) := by
      refine Or.inl ⟨by omega, by omega, by omega, Or.inl ⟨?_, by omega, by omega⟩⟩
      unfold si
      rw [if_neg (by omega)]
    have e2 := mp_1 h (k := j - 1) (by omega)
    rw [show j - 1 + 1 = j by omega] at e2
    exact ⟨j - 1, _, hA, e2, (At_in h hA).2.2.1⟩
/-- the extreme of the angles ahead -/
def exW (t : TT) (sg a v x y : Int) : Prop := ∃ k u, At t v (si v) k u ∧ x = mpL t k u + 2000 * mpO t k ∧ y = mpO t k ∧ v < a ∧ ∀ a' k' u', a' < a → At t a' (si a') k' u' → sg * (mpL t k' u' * mpO t k) < sg * (mpL t k u * mpO t k') ∨ (sg * (mpL t k' u' * mpO t k) = sg * (mpL t k u * mpO t k') ∧ v ≤ a')
theorem ex_fin {t : TT} (h : TV t) (hn : 0 < t.2.2.2) {sg v x y a : Int} (hs : sg = 1 ∨ sg = -1) (ha : tot t < a) (hW : exW t sg a v x y) : IsEx t sg v := by
  obtain ⟨k, u, hA, -, -, -, hall⟩ := hW
  have hI := At_in h hA
  have hO := (mp_bd h ⟨hI.1.1, hI.1.2.1⟩ hI.2.1).2.2.2
  obtain ⟨j, j0, j1, hj⟩ := ex_dom h hs hA
  have nx : ∀ j', 0 ≤ j' → j' ≤ t.2.2.2 → sg * ah t j' * mpO t k < sg * mpL t k u ∨ (sg * ah t j' * mpO t k = sg * mpL t k u ∧ v ≤ bg t j') := by
    intro j' p0 p1
    obtain ⟨k', u', hB, e1, e2⟩ := ex_at h hn ⟨p0, p1⟩
    have hI' := At_in h hB
    have hO' := (mp_bd h ⟨hI'.1.1, hI'.1.2.1⟩ hI'.2.1).2.2.2
    have := hall _ _ _ (by omega) hB
    rw [e1, show sg * (ah t j' * mpO t k' * mpO t k) = mpO t k' * (sg * ah t j' * mpO t k) by grind, show sg * (mpL t k u * mpO t k') = mpO t k' * (sg * mpL t k u) by grind] at this
    rcases this with z | ⟨z1, z2⟩
    · exact Or.inl ((sc_lt (by omega)).mp z)
    · exact Or.inr ⟨Int.eq_of_mul_eq_mul_left (by omega) z1, z2⟩
  have q := nx j j0 j1
  have e : sg * mpL t k u = sg * ah t j * mpO t k ∧ v = bg t j := by omega
  refine ⟨j, j0, j1, e.2, fun j' p0 p1 => ?_⟩
  have r := nx j' p0 p1
  rw [e.1, Int.mul_comm _ (mpO t k), Int.mul_comm _ (mpO t k)] at r
  rw [← e.2]
  rcases r with z | ⟨z1, z2⟩
  · exact Or.inl ((sc_lt (by omega)).mp z)
  · exact Or.inr ⟨Int.eq_of_mul_eq_mul_left (by omega) z1, z2⟩
theorem mp_lo {t : TT} (h : TV t) {k u : Int} (hk : 0 ≤ k ∧ k < t.2.2.2) (hu : 0 ≤ u ∧ u ≤ t.2.1 k) : 0 ≤ mpL t k u + 2000 * mpO t k := by
  have h1 := h.1.1
  have hm := h.2.2 k hk.1 hk.2
  unfold mb at hm
  have ha := ah_bd h.1 (show k ≤ 12 by omega)
  have h5 := o5_bd hm.2.1
  have b2 := shr_bd hm.1 hm.2.1.1 hu
  have m1 := mul_ab (x := t.2.2.1 k) (y := shr (t.1 k) u (t.2.1 k)) (A := 99) (B := o5 (t.2.1 k)) hm.2.2.1 (by omega)
  have m2 := Int.mul_le_mul_of_nonneg_right ha.1 (show 0 ≤ o5 (t.2.1 k) by omega)
  unfold mpL mpO
  omega
def btr (sg x y x' y' : Int) : Prop := (sg = 1 ∧ x * y' < x' * y) ∨ (sg = -1 ∧ x' * y < x * y')
theorem ex_x (L O L' O' : Int) : (L + 2000 * O) * O' = L * O' + 2000 * (O * O') ∧ (L' + 2000 * O') * O = L' * O + 2000 * (O * O') := by constructor <;> grind
theorem btr_t {sg L O L' O' : Int} (hs : sg = 1 ∨ sg = -1) (hb : btr sg (L + 2000 * O) O (L' + 2000 * O') O') : sg * (L * O') < sg * (L' * O) := by
  obtain ⟨x1, x2⟩ := ex_x L O L' O'
  unfold btr at hb
  rcases hs with es | es <;> rw [es] at hb ⊢ <;> omega
theorem btr_f {sg L O L' O' : Int} (hs : sg = 1 ∨ sg = -1) (hb : ¬ btr sg (L + 2000 * O) O (L' + 2000 * O') O') : sg * (L' * O) < sg * (L * O') ∨ sg * (L' * O) = sg * (L * O') := by
  obtain ⟨x1, x2⟩ := ex_x L O L' O'
  unfold btr at hb
  rcases hs with es | es <;> rw [es] at hb ⊢ <;> omega
theorem ex_keep {t : TT} (h : TV t) {sg v x y a kk uu : Int} (hs : sg = 1 ∨ sg = -1) (hW : exW t sg a v x y) (hA : At t a (si a) kk uu) (hb : ¬ btr sg x y (mpL t kk uu + 2000 * mpO t kk) (mpO t kk)) : exW t sg (a + 1) v x y := by
  obtain ⟨k, u, hv, e1, e2, e3, hall⟩ := hW
  refine ⟨k, u, hv, e1, e2, by omega, fun a' k' u' ha' hB => ?_⟩
  by_cases z : a' = a
  · rw [z] at hB ⊢
    obtain ⟨y1, y2⟩ := At_un h hA hB
    rw [← y1, ← y2]
    rw [e1, e2] at hb
    rcases btr_f hs hb with w | w
    · exact Or.inl w
    · exact Or.inr ⟨w, by omega⟩
  · exact hall a' k' u' (by omega) hB
theorem ex_new {t : TT} (h : TV t) {sg kk uu : Int} (hA : At t 0 (si 0) kk uu) : exW t sg (0 + 1) 0 (mpL t kk uu + 2000 * mpO t kk) (mpO t kk) := by
  refine ⟨kk, uu, hA, rfl, rfl, by omega, fun a' k' u' ha' hB => ?_⟩
  have := At_in h hB
  have ez : a' = 0 := by omega
  rw [ez] at hB ⊢
  obtain ⟨y1, y2⟩ := At_un h hA hB
  rw [← y1, ← y2]
  exact Or.inr ⟨rfl, Int.le_refl 0⟩
theorem ex_upd {t : TT} (h : TV t) {sg v x y a kk uu : Int} (hs : sg = 1 ∨ sg = -1) (hW : exW t sg a v x y) (hA : At t a (si a) kk uu) (hb : btr sg x y (mpL t kk uu + 2000 * mpO t kk) (mpO t kk)) : exW t sg (a + 1) a (mpL t kk uu + 2000 * mpO t kk) (mpO t kk) := by
  obtain ⟨k, u, hv, e1, e2, e3, hall⟩ := hW
  refine ⟨kk, uu, hA, rfl, rfl, by omega, fun a' k' u' ha' hB => ?_⟩
  by_cases z : a' = a
  · rw [z] at hB ⊢
    obtain ⟨y1, y2⟩ := At_un h hA hB
    rw [← y1, ← y2]
    exact Or.inr ⟨rfl, Int.le_refl a⟩
  · have hI := At_in h hv
    have hI2 := At_in h hA
    have hI3 := At_in h hB
    have o1 := (mp_bd h ⟨hI.1.1, hI.1.2.1⟩ hI.2.1).2.2.2
    have o2 := (mp_bd h ⟨hI2.1.1, hI2.1.2.1⟩ hI2.2.1).2.2.2
    have o3 := (mp_bd h ⟨hI3.1.1, hI3.1.2.1⟩ hI3.2.1).2.2.2
    have q := hall a' k' u' (by omega) hB
    rw [e1, e2] at hb
    have q2 := btr_t hs hb
    have f := fr1 (x' := sg * mpL t k' u') (r' := mpO t k') (x := sg * mpL t kk uu) (r := mpO t kk) (A := sg * mpL t k u) (B := mpO t k) (by clear q2 hb; omega) (by clear q2 hb; omega) (by clear q2 hb; omega) (by
      rw [Int.mul_assoc, Int.mul_assoc]
      rcases q with w | w
      · exact Int.le_of_lt w
      · rw [w.1]; exact Int.le_refl _) (by rw [Int.mul_assoc, Int.mul_assoc]; exact q2)
    rw [Int.mul_assoc, Int.mul_assoc] at f
    exact Or.inl f
section M7
variable (l : Launch) (p : MP) (av bl : Int) (kw sm : Int → Int) (ma mf mw : Int) (cj : TT)
theorem lp_M_extreme (h : MV p) (hn : 0 < p.t.2.2.2) (what sg : Int) (hs : (what = 0 ∧ sg = 1) ∨ (what = 1 ∧ sg = -1)) : ∀ (d : Nat) (a v x y he fa li sl be ov : Int), (0 ≤ a ∧ a ≤ tot p.t + 1) → ((a = 0 ∧ v = 0) ∨ (0 < a ∧ exW p.t sg a v x y)) → ((0 ≤ x ∧ inL x) ∧ (0 < y ∧ inL y)) → tot p.t + 1 - a < d → Z (l, M_M_extreme, R_M_extreme, (0, 0), false, zAi (theI (IsEx p.t sg)) (LM p av bl kw sm ma mf mw cj)) 0 0 (eM p he fa li sl be ov av bl kw sm ma mf mw cj) 32 [(0, .ref 0), (1, .int (iI what)), (2, .int (iI v)), (3, .long (lI x)), (5, .long (lI y)), (7, .int (iI a))] [] := by
  have ht := TV_tot h.1
  intro d
  induction d with
  | zero => intro a v x y he fa li sl be ov h1 h2 h3 h4; omega
  | succ d ih =>
    intro a v x y he fa li sl be ov h1 h2 h3 h4
    have fin : a = tot p.t + 1 → theI (IsEx p.t sg) = v := by
      intro z
      rcases h2 with z2 | z2
      · omega
      · exact theI_eq (ex_fin h.1 hn (by omega) (by omega) z2.2) (fun w hw => IsEx_un hw (ex_fin h.1 hn (by omega) (by omega) z2.2))
    have hal := fun z => si_all h.1 hn (a := a) ⟨h1.1, z⟩
    refine Z_iload 21 rfl rfl ?_
    refine Z_aload_n 22 rfl rfl rfl ?_
    refine Z_callVip (M' := M_M_total) 23 isM rfl l_M_88 C_M_total (c_M_total l p he fa li sl be ov av bl kw sm ma mf mw cj h.1.1) (emM ..) (Or.inl ⟨_, _, _, _, rfl, rfl⟩) rfl rfl rfl (Nat.le_of_ble_eq_true rfl) ⟨rfl, rfl, Nat.le_of_ble_eq_true rfl, Nat.le_of_ble_eq_true rfl⟩ ⟨Nat.zero_le _, Nat.zero_le _⟩ ?_
    refine Z_icmp_gt 24 rfl (tgt := 153) rfl (by omega) (by omega) (fun c38 => ?_) (fun c38 => ?_)
    · refine Z_iload_n 78 rfl rfl rfl ?_
      refine Z_iret 79 rfl rfl ⟨Nat.le_refl _, Nat.le_refl _⟩ ?_
      exact ⟨by rw [fin (by omega)], _, _, _, _, _, _, rfl⟩
    · refine Z_aload_n 25 rfl rfl rfl ?_
      refine Z_iload 26 rfl rfl ?_
      refine Z_iload 27 rfl rfl ?_
      refine Z_if_ne 28 rfl (tgt := 53) rfl (by omega) (fun c46 => ?_) (fun c46 => ?_)
      · refine Z_iconst 31 rfl ?_
        refine Z_ci (show _ = si a by unfold si; first | (rw [if_pos (by omega)] <;> rfl) | (rw [if_neg (by omega)] <;> rfl)) ?_
        refine Z_callVb (M' := M_M_looks) 32 isM rfl l_M_202 C_M_looks (c_M_looks l p he fa li sl be ov av bl kw sm ma mf mw cj h a (si a) (by omega) (by unfold si; split <;> omega)) (emM ..) (Or.inl ⟨_, _, _, _, rfl, rfl⟩) rfl rfl rfl (Nat.le_of_ble_eq_true rfl) ⟨rfl, rfl, Nat.le_of_ble_eq_true rfl, Nat.le_of_ble_eq_true rfl⟩ ⟨Nat.zero_le _, Nat.zero_le _⟩ (fun out hq => ?_)
        obtain ⟨he', fa', li', sl', be', ov', rfl, hL⟩ := hq
        refine Z_mem (mgM ..) ?_
        obtain ⟨kk, uu, hA⟩ := hal (by omega)
        obtain ⟨e1, e2, e3, e4, e5, e6⟩ := hL kk uu hA
        rw [e1, e2, e3, e4, e5, e6]
        have hI := At_in h.1 hA
        have hb := mp_bd h.1 ⟨hI.1.1, hI.1.2.1⟩ hI.2.1
        have hlo := mp_lo h.1 ⟨hI.1.1, hI.1.2.1⟩ hI.2.1
        refine Z_ifb_ne 33 rfl (tgt := 63) rfl (fun c57 => ?_) (fun c57 => ?_)
        rotate_left
        · exact absurd ⟨kk, uu, hA⟩ c57
        refine Z_aload_n 35 rfl rfl rfl ?_
        refine Z_get 36 rfl f_M_187 rfl rfl ?_
        refine Z_ldc2 37 rfl k_M_227 (c := 2000) rfl ?_
        refine Z_aload_n 38 rfl rfl rfl ?_
        refine Z_get 39 rfl f_M_179 rfl rfl ?_
        refine Z_lmul 40 rfl ?_
        refine Z_ladd 41 rfl ?_
        refine Z_cl (show _ = mpL p.t kk uu + 2000 * mpO p.t kk from rfl) ?_
        refine Z_lstore 42 rfl (Nat.le_of_ble_eq_true rfl) (lv' := [(8, .long _), (0, .ref _), (1, .int _), (2, .int _), (3, .long _), (5, .long _), (7, .int _)]) rfl ?_
        refine Z_iload 43 rfl rfl ?_
        refine Z_if_eq 44 rfl (tgt := 120) rfl (by omega) (fun c80 => ?_) (fun c80 => ?_)
        · refine Z_iconst 62 rfl ?_
          refine Z_goto 63 rfl (tgt := 125) rfl ?_
          refine Z_istore 65 rfl (Nat.le_of_ble_eq_true rfl) (lv' := [(10, .int _), (8, .long _), (0, .ref _), (1, .int _), (2, .int _), (3, .long _), (5, .long _), (7, .int _)]) rfl ?_
          refine Z_iload 66 rfl rfl ?_
          refine Z_if_ne 67 rfl (tgt := 135) rfl (by omega) (fun c129 => ?_) (fun c129 => ?_)
          · refine Z_iload 69 rfl rfl ?_
            refine Z_istore_n 70 rfl rfl (Nat.le_of_ble_eq_true rfl) (lv' := [(2, .int _), (10, .int _), (8, .long _), (0, .ref _), (1, .int _), (3, .long _), (5, .long _), (7, .int _)]) rfl ?_
            refine Z_lload 71 rfl rfl ?_
            refine Z_lstore_n 72 rfl rfl (Nat.le_of_ble_eq_true rfl) (lv' := [(3, .long _), (2, .int _), (10, .int _), (8, .long _), (0, .ref _), (1, .int _), (5, .long _), (7, .int _)]) rfl ?_
            refine Z_aload_n 73 rfl rfl rfl ?_
            refine Z_get 74 rfl f_M_179 rfl rfl ?_
            refine Z_lstore 75 rfl (Nat.le_of_ble_eq_true rfl) (lv' := [(5, .long _), (3, .long _), (2, .int _), (10, .int _), (8, .long _), (0, .ref _), (1, .int _), (7, .int _)]) rfl ?_
            refine Z_iinc 76 rfl rfl (Nat.le_of_ble_eq_true rfl) (lv' := [(7, .int _), (5, .long _), (3, .long _), (2, .int _), (10, .int _), (8, .long _), (0, .ref _), (1, .int _)]) rfl ?_
            refine Z_goto 77 rfl (tgt := 32) rfl ?_
            refine Z_pick [0, 1, 2, 3, 5, 7] (lv' := [(0, .ref _), (1, .int _), (2, .int _), (3, .long _), (5, .long _), (7, .int _)]) rfl ?_
            first
              | (exfalso; omega)
              | (have ez : a = 0 := by omega
                 refine ih (a + 1) a _ _ _ _ _ _ _ _ (by omega) (Or.inr ⟨by omega, ?_⟩) (by omega) (by omega)
                 rw [ez] at hA ⊢
                 exact ex_new h.1 hA)
              | (refine ih (a + 1) v x y _ _ _ _ _ _ (by omega) (Or.inr ⟨by omega, ex_keep h.1 (by omega) (h2.resolve_left (by omega)).2 hA ?_⟩) h3 (by omega)
                 unfold btr
                 omega)
              | (refine ih (a + 1) a _ _ _ _ _ _ _ _ (by omega) (Or.inr ⟨by omega, ex_upd h.1 (by omega) (h2.resolve_left (by omega)).2 hA ?_⟩) (by omega) (by omega)
                 unfold btr
                 omega)
          · refine Z_goto 68 rfl (tgt := 147) rfl ?_
            refine Z_iinc 76 rfl rfl (Nat.le_of_ble_eq_true rfl) (lv' := [(7, .int _), (10, .int _), (8, .long _), (0, .ref _), (1, .int _), (2, .int _), (3, .long _), (5, .long _)]) rfl ?_
            refine Z_goto 77 rfl (tgt := 32) rfl ?_
            refine Z_pick [0, 1, 2, 3, 5, 7] (lv' := [(0, .ref _), (1, .int _), (2, .int _), (3, .long _), (5, .long _), (7, .int _)]) rfl ?_
            first
              | (exfalso; omega)
              | (have ez : a = 0 := by omega
                 refine ih (a + 1) a _ _ _ _ _ _ _ _ (by omega) (Or.inr ⟨by omega, ?_⟩) (by omega) (by omega)
                 rw [ez] at hA ⊢
                 exact ex_new h.1 hA)
              | (refine ih (a + 1) v x y _ _ _ _ _ _ (by omega) (Or.inr ⟨by omega, ex_keep h.1 (by omega) (h2.resolve_left (by omega)).2 hA ?_⟩) h3 (by omega)
                 unfold btr
                 omega)
              | (refine ih (a + 1) a _ _ _ _ _ _ _ _ (by omega) (Or.inr ⟨by omega, ex_upd h.1 (by omega) (h2.resolve_left (by omega)).2 hA ?_⟩) (by omega) (by omega)
                 unfold btr
                 omega)
        · refine Z_iload_n 45 rfl rfl rfl ?_
          refine Z_if_ne 46 rfl (tgt := 105) rfl (by omega) (fun c84 => ?_) (fun c84 => ?_)
          · refine Z_lload 55 rfl rfl ?_
            refine Z_aload_n 56 rfl rfl rfl ?_
            refine Z_get 57 rfl f_M_179 rfl rfl ?_
            refine Z_lload_n 58 rfl rfl rfl ?_
            refine Z_lload 59 rfl rfl ?_
            refine Z_callSbp (M' := M_M_isLess) 60 [] rfl l_M_229 C_M_isLess (c_M_isLess l (mpL p.t kk uu + 2000 * mpO p.t kk) (mpO p.t kk) x y (by omega) (by omega) (by omega) (by omega)) ⟨List.nodup_nil, zEL.n⟩ rfl rfl rfl (Nat.le_of_ble_eq_true rfl) ⟨rfl, rfl, Nat.le_of_ble_eq_true rfl, Nat.le_of_ble_eq_true rfl⟩ ⟨Nat.zero_le _, Nat.zero_le _⟩ ?_
            refine Z_ifb_eq 61 rfl (tgt := 124) rfl (fun c117 => ?_) (fun c117 => ?_)
            · refine Z_iconst 64 rfl ?_
              refine Z_istore 65 rfl (Nat.le_of_ble_eq_true rfl) (lv' := [(10, .int _), (8, .long _), (0, .ref _), (1, .int _), (2, .int _), (3, .long _), (5, .long _), (7, .int _)]) rfl ?_
              refine Z_iload 66 rfl rfl ?_
              refine Z_if_ne 67 rfl (tgt := 135) rfl (by omega) (fun c129 => ?_) (fun c129 => ?_)
              · refine Z_iload 69 rfl rfl ?_
                refine Z_istore_n 70 rfl rfl (Nat.le_of_ble_eq_true rfl) (lv' := [(2, .int _), (10, .int _), (8, .long _), (0, .ref _), (1, .int _), (3, .long _), (5, .long _), (7, .int _)]) rfl ?_
                refine Z_lload 71 rfl rfl ?_
                refine Z_lstore_n 72 rfl rfl (Nat.le_of_ble_eq_true rfl) (lv' := [(3, .long _), (2, .int _), (10, .int _), (8, .long _), (0, .ref _), (1, .int _), (5, .long _), (7, .int _)]) rfl ?_
                refine Z_aload_n 73 rfl rfl rfl ?_
                refine Z_get 74 rfl f_M_179 rfl rfl ?_
                refine Z_lstore 75 rfl (Nat.le_of_ble_eq_true rfl) (lv' := [(5, .long _), (3, .long _), (2, .int _), (10, .int _), (8, .long _), (0, .ref _), (1, .int _), (7, .int _)]) rfl ?_
                refine Z_iinc 76 rfl rfl (Nat.le_of_ble_eq_true rfl) (lv' := [(7, .int _), (5, .long _), (3, .long _), (2, .int _), (10, .int _), (8, .long _), (0, .ref _), (1, .int _)]) rfl ?_
                refine Z_goto 77 rfl (tgt := 32) rfl ?_
                refine Z_pick [0, 1, 2, 3, 5, 7] (lv' := [(0, .ref _), (1, .int _), (2, .int _), (3, .long _), (5, .long _), (7, .int _)]) rfl ?_
                first
                  | (exfalso; omega)
                  | (have ez : a = 0 := by omega
                     refine ih (a + 1) a _ _ _ _ _ _ _ _ (by omega) (Or.inr ⟨by omega, ?_⟩) (by omega) (by omega)
                     rw [ez] at hA ⊢
                     exact ex_new h.1 hA)
                  | (refine ih (a + 1) v x y _ _ _ _ _ _ (by omega) (Or.inr ⟨by omega, ex_keep h.1 (by omega) (h2.resolve_left (by omega)).2 hA ?_⟩) h3 (by omega)
                     unfold btr
                     omega)
                  | (refine ih (a + 1) a _ _ _ _ _ _ _ _ (by omega) (Or.inr ⟨by omega, ex_upd h.1 (by omega) (h2.resolve_left (by omega)).2 hA ?_⟩) (by omega) (by omega)
                     unfold btr
                     omega)
              · refine Z_goto 68 rfl (tgt := 147) rfl ?_
                refine Z_iinc 76 rfl rfl (Nat.le_of_ble_eq_true rfl) (lv' := [(7, .int _), (10, .int _), (8, .long _), (0, .ref _), (1, .int _), (2, .int _), (3, .long _), (5, .long _)]) rfl ?_
                refine Z_goto 77 rfl (tgt := 32) rfl ?_
                refine Z_pick [0, 1, 2, 3, 5, 7] (lv' := [(0, .ref _), (1, .int _), (2, .int _), (3, .long _), (5, .long _), (7, .int _)]) rfl ?_
                first
                  | (exfalso; omega)
                  | (have ez : a = 0 := by omega
                     refine ih (a + 1) a _ _ _ _ _ _ _ _ (by omega) (Or.inr ⟨by omega, ?_⟩) (by omega) (by omega)
                     rw [ez] at hA ⊢
                     exact ex_new h.1 hA)
                  | (refine ih (a + 1) v x y _ _ _ _ _ _ (by omega) (Or.inr ⟨by omega, ex_keep h.1 (by omega) (h2.resolve_left (by omega)).2 hA ?_⟩) h3 (by omega)
                     unfold btr
                     omega)
                  | (refine ih (a + 1) a _ _ _ _ _ _ _ _ (by omega) (Or.inr ⟨by omega, ex_upd h.1 (by omega) (h2.resolve_left (by omega)).2 hA ?_⟩) (by omega) (by omega)
                     unfold btr
                     omega)
            · refine Z_iconst 62 rfl ?_
              refine Z_goto 63 rfl (tgt := 125) rfl ?_
              refine Z_istore 65 rfl (Nat.le_of_ble_eq_true rfl) (lv' := [(10, .int _), (8, .long _), (0, .ref _), (1, .int _), (2, .int _), (3, .long _), (5, .long _), (7, .int _)]) rfl ?_
              refine Z_iload 66 rfl rfl ?_
              refine Z_if_ne 67 rfl (tgt := 135) rfl (by omega) (fun c129 => ?_) (fun c129 => ?_)
              · refine Z_iload 69 rfl rfl ?_
                refine Z_istore_n 70 rfl rfl (Nat.le_of_ble_eq_true rfl) (lv' := [(2, .int _), (10, .int _), (8, .long _), (0, .ref _), (1, .int _), (3, .long _), (5, .long _), (7, .int _)]) rfl ?_
                refine Z_lload 71 rfl rfl ?_
                refine Z_lstore_n 72 rfl rfl (Nat.le_of_ble_eq_true rfl) (lv' := [(3, .long _), (2, .int _), (10, .int _), (8, .long _), (0, .ref _), (1, .int _), (5, .long _), (7, .int _)]) rfl ?_
                refine Z_aload_n 73 rfl rfl rfl ?_
                refine Z_get 74 rfl f_M_179 rfl rfl ?_
                refine Z_lstore 75 rfl (Nat.le_of_ble_eq_true rfl) (lv' := [(5, .long _), (3, .long _), (2, .int _), (10, .int _), (8, .long _), (0, .ref _), (1, .int _), (7, .int _)]) rfl ?_
                refine Z_iinc 76 rfl rfl (Nat.le_of_ble_eq_true rfl) (lv' := [(7, .int _), (5, .long _), (3, .long _), (2, .int _), (10, .int _), (8, .long _), (0, .ref _), (1, .int _)]) rfl ?_
                refine Z_goto 77 rfl (tgt := 32) rfl ?_
                refine Z_pick [0, 1, 2, 3, 5, 7] (lv' := [(0, .ref _), (1, .int _), (2, .int _), (3, .long _), (5, .long _), (7, .int _)]) rfl ?_
                first
                  | (exfalso; omega)
                  | (have ez : a = 0 := by omega
                     refine ih (a + 1) a _ _ _ _ _ _ _ _ (by omega) (Or.inr ⟨by omega, ?_⟩) (by omega) (by omega)
                     rw [ez] at hA ⊢
                     exact ex_new h.1 hA)
                  | (refine ih (a + 1) v x y _ _ _ _ _ _ (by omega) (Or.inr ⟨by omega, ex_keep h.1 (by omega) (h2.resolve_left (by omega)).2 hA ?_⟩) h3 (by omega)
                     unfold btr
                     omega)
                  | (refine ih (a + 1) a _ _ _ _ _ _ _ _ (by omega) (Or.inr ⟨by omega, ex_upd h.1 (by omega) (h2.resolve_left (by omega)).2 hA ?_⟩) (by omega) (by omega)
                     unfold btr
                     omega)
              · refine Z_goto 68 rfl (tgt := 147) rfl ?_
                refine Z_iinc 76 rfl rfl (Nat.le_of_ble_eq_true rfl) (lv' := [(7, .int _), (10, .int _), (8, .long _), (0, .ref _), (1, .int _), (2, .int _), (3, .long _), (5, .long _)]) rfl ?_
                refine Z_goto 77 rfl (tgt := 32) rfl ?_
                refine Z_pick [0, 1, 2, 3, 5, 7] (lv' := [(0, .ref _), (1, .int _), (2, .int _), (3, .long _), (5, .long _), (7, .int _)]) rfl ?_
                first
                  | (exfalso; omega)
                  | (have ez : a = 0 := by omega
                     refine ih (a + 1) a _ _ _ _ _ _ _ _ (by omega) (Or.inr ⟨by omega, ?_⟩) (by omega) (by omega)
                     rw [ez] at hA ⊢
                     exact ex_new h.1 hA)
                  | (refine ih (a + 1) v x y _ _ _ _ _ _ (by omega) (Or.inr ⟨by omega, ex_keep h.1 (by omega) (h2.resolve_left (by omega)).2 hA ?_⟩) h3 (by omega)
                     unfold btr
                     omega)
                  | (refine ih (a + 1) a _ _ _ _ _ _ _ _ (by omega) (Or.inr ⟨by omega, ex_upd h.1 (by omega) (h2.resolve_left (by omega)).2 hA ?_⟩) (by omega) (by omega)
                     unfold btr
                     omega)
          · refine Z_lload_n 47 rfl rfl rfl ?_
            refine Z_lload 48 rfl rfl ?_
            refine Z_lload 49 rfl rfl ?_
            refine Z_aload_n 50 rfl rfl rfl ?_
            refine Z_get 51 rfl f_M_179 rfl rfl ?_
            refine Z_callSbp (M' := M_M_isLess) 52 [] rfl l_M_229 C_M_isLess (c_M_isLess l x y (mpL p.t kk uu + 2000 * mpO p.t kk) (mpO p.t kk) (by omega) (by omega) (by omega) (by omega)) ⟨List.nodup_nil, zEL.n⟩ rfl rfl rfl (Nat.le_of_ble_eq_true rfl) ⟨rfl, rfl, Nat.le_of_ble_eq_true rfl, Nat.le_of_ble_eq_true rfl⟩ ⟨Nat.zero_le _, Nat.zero_le _⟩ ?_
            refine Z_ifb_eq 53 rfl (tgt := 124) rfl (fun c99 => ?_) (fun c99 => ?_)
            · refine Z_iconst 64 rfl ?_
              refine Z_istore 65 rfl (Nat.le_of_ble_eq_true rfl) (lv' := [(10, .int _), (8, .long _), (0, .ref _), (1, .int _), (2, .int _), (3, .long _), (5, .long _), (7, .int _)]) rfl ?_
              refine Z_iload 66 rfl rfl ?_
              refine Z_if_ne 67 rfl (tgt := 135) rfl (by omega) (fun c129 => ?_) (fun c129 => ?_)
              · refine Z_iload 69 rfl rfl ?_
                refine Z_istore_n 70 rfl rfl (Nat.le_of_ble_eq_true rfl) (lv' := [(2, .int _), (10, .int _), (8, .long _), (0, .ref _), (1, .int _), (3, .long _), (5, .long _), (7, .int _)]) rfl ?_
                refine Z_lload 71 rfl rfl ?_
                refine Z_lstore_n 72 rfl rfl (Nat.le_of_ble_eq_true rfl) (lv' := [(3, .long _), (2, .int _), (10, .int _), (8, .long _), (0, .ref _), (1, .int _), (5, .long _), (7, .int _)]) rfl ?_
                refine Z_aload_n 73 rfl rfl rfl ?_
                refine Z_get 74 rfl f_M_179 rfl rfl ?_
                refine Z_lstore 75 rfl (Nat.le_of_ble_eq_true rfl) (lv' := [(5, .long _), (3, .long _), (2, .int _), (10, .int _), (8, .long _), (0, .ref _), (1, .int _), (7, .int _)]) rfl ?_
                refine Z_iinc 76 rfl rfl (Nat.le_of_ble_eq_true rfl) (lv' := [(7, .int _), (5, .long _), (3, .long _), (2, .int _), (10, .int _), (8, .long _), (0, .ref _), (1, .int _)]) rfl ?_
                refine Z_goto 77 rfl (tgt := 32) rfl ?_
                refine Z_pick [0, 1, 2, 3, 5, 7] (lv' := [(0, .ref _), (1, .int _), (2, .int _), (3, .long _), (5, .long _), (7, .int _)]) rfl ?_
                first
                  | (exfalso; omega)
                  | (have ez : a = 0 := by omega
                     refine ih (a + 1) a _ _ _ _ _ _ _ _ (by omega) (Or.inr ⟨by omega, ?_⟩) (by omega) (by omega)
                     rw [ez] at hA ⊢
                     exact ex_new h.1 hA)
                  | (refine ih (a + 1) v x y _ _ _ _ _ _ (by omega) (Or.inr ⟨by omega, ex_keep h.1 (by omega) (h2.resolve_left (by omega)).2 hA ?_⟩) h3 (by omega)
                     unfold btr
                     omega)
                  | (refine ih (a + 1) a _ _ _ _ _ _ _ _ (by omega) (Or.inr ⟨by omega, ex_upd h.1 (by omega) (h2.resolve_left (by omega)).2 hA ?_⟩) (by omega) (by omega)
                     unfold btr
                     omega)
              · refine Z_goto 68 rfl (tgt := 147) rfl ?_
                refine Z_iinc 76 rfl rfl (Nat.le_of_ble_eq_true rfl) (lv' := [(7, .int _), (10, .int _), (8, .long _), (0, .ref _), (1, .int _), (2, .int _), (3, .long _), (5, .long _)]) rfl ?_
                refine Z_goto 77 rfl (tgt := 32) rfl ?_
                refine Z_pick [0, 1, 2, 3, 5, 7] (lv' := [(0, .ref _), (1, .int _), (2, .int _), (3, .long _), (5, .long _), (7, .int _)]) rfl ?_
                first
                  | (exfalso; omega)
                  | (have ez : a = 0 := by omega
                     refine ih (a + 1) a _ _ _ _ _ _ _ _ (by omega) (Or.inr ⟨by omega, ?_⟩) (by omega) (by omega)
                     rw [ez] at hA ⊢
                     exact ex_new h.1 hA)
                  | (refine ih (a + 1) v x y _ _ _ _ _ _ (by omega) (Or.inr ⟨by omega, ex_keep h.1 (by omega) (h2.resolve_left (by omega)).2 hA ?_⟩) h3 (by omega)
                     unfold btr
                     omega)
                  | (refine ih (a + 1) a _ _ _ _ _ _ _ _ (by omega) (Or.inr ⟨by omega, ex_upd h.1 (by omega) (h2.resolve_left (by omega)).2 hA ?_⟩) (by omega) (by omega)
                     unfold btr
                     omega)
            · refine Z_goto 54 rfl (tgt := 120) rfl ?_
              refine Z_iconst 62 rfl ?_
              refine Z_goto 63 rfl (tgt := 125) rfl ?_
              refine Z_istore 65 rfl (Nat.le_of_ble_eq_true rfl) (lv' := [(10, .int _), (8, .long _), (0, .ref _), (1, .int _), (2, .int _), (3, .long _), (5, .long _), (7, .int _)]) rfl ?_
              refine Z_iload 66 rfl rfl ?_
              refine Z_if_ne 67 rfl (tgt := 135) rfl (by omega) (fun c129 => ?_) (fun c129 => ?_)
              · refine Z_iload 69 rfl rfl ?_
                refine Z_istore_n 70 rfl rfl (Nat.le_of_ble_eq_true rfl) (lv' := [(2, .int _), (10, .int _), (8, .long _), (0, .ref _), (1, .int _), (3, .long _), (5, .long _), (7, .int _)]) rfl ?_
                refine Z_lload 71 rfl rfl ?_
                refine Z_lstore_n 72 rfl rfl (Nat.le_of_ble_eq_true rfl) (lv' := [(3, .long _), (2, .int _), (10, .int _), (8, .long _), (0, .ref _), (1, .int _), (5, .long _), (7, .int _)]) rfl ?_
                refine Z_aload_n 73 rfl rfl rfl ?_
                refine Z_get 74 rfl f_M_179 rfl rfl ?_
                refine Z_lstore 75 rfl (Nat.le_of_ble_eq_true rfl) (lv' := [(5, .long _), (3, .long _), (2, .int _), (10, .int _), (8, .long _), (0, .ref _), (1, .int _), (7, .int _)]) rfl ?_
                refine Z_iinc 76 rfl rfl (Nat.le_of_ble_eq_true rfl) (lv' := [(7, .int _), (5, .long _), (3, .long _), (2, .int _), (10, .int _), (8, .long _), (0, .ref _), (1, .int _)]) rfl ?_
                refine Z_goto 77 rfl (tgt := 32) rfl ?_
                refine Z_pick [0, 1, 2, 3, 5, 7] (lv' := [(0, .ref _), (1, .int _), (2, .int _), (3, .long _), (5, .long _), (7, .int _)]) rfl ?_
                first
                  | (exfalso; omega)
                  | (have ez : a = 0 := by omega
                     refine ih (a + 1) a _ _ _ _ _ _ _ _ (by omega) (Or.inr ⟨by omega, ?_⟩) (by omega) (by omega)
                     rw [ez] at hA ⊢
                     exact ex_new h.1 hA)
                  | (refine ih (a + 1) v x y _ _ _ _ _ _ (by omega) (Or.inr ⟨by omega, ex_keep h.1 (by omega) (h2.resolve_left (by omega)).2 hA ?_⟩) h3 (by omega)
                     unfold btr
                     omega)
                  | (refine ih (a + 1) a _ _ _ _ _ _ _ _ (by omega) (Or.inr ⟨by omega, ex_upd h.1 (by omega) (h2.resolve_left (by omega)).2 hA ?_⟩) (by omega) (by omega)
                     unfold btr
                     omega)
              · refine Z_goto 68 rfl (tgt := 147) rfl ?_
                refine Z_iinc 76 rfl rfl (Nat.le_of_ble_eq_true rfl) (lv' := [(7, .int _), (10, .int _), (8, .long _), (0, .ref _), (1, .int _), (2, .int _), (3, .long _), (5, .long _)]) rfl ?_
                refine Z_goto 77 rfl (tgt := 32) rfl ?_
                refine Z_pick [0, 1, 2, 3, 5, 7] (lv' := [(0, .ref _), (1, .int _), (2, .int _), (3, .long _), (5, .long _), (7, .int _)]) rfl ?_
                first
                  | (exfalso; omega)
                  | (have ez : a = 0 := by omega
                     refine ih (a + 1) a _ _ _ _ _ _ _ _ (by omega) (Or.inr ⟨by omega, ?_⟩) (by omega) (by omega)
                     rw [ez] at hA ⊢
                     exact ex_new h.1 hA)
                  | (refine ih (a + 1) v x y _ _ _ _ _ _ (by omega) (Or.inr ⟨by omega, ex_keep h.1 (by omega) (h2.resolve_left (by omega)).2 hA ?_⟩) h3 (by omega)
                     unfold btr
                     omega)
                  | (refine ih (a + 1) a _ _ _ _ _ _ _ _ (by omega) (Or.inr ⟨by omega, ex_upd h.1 (by omega) (h2.resolve_left (by omega)).2 hA ?_⟩) (by omega) (by omega)
                     unfold btr
                     omega)
      · refine Z_iconst 29 rfl ?_
        refine Z_goto 30 rfl (tgt := 54) rfl ?_
        refine Z_ci (show _ = si a by unfold si; first | (rw [if_pos (by omega)] <;> rfl) | (rw [if_neg (by omega)] <;> rfl)) ?_
        refine Z_callVb (M' := M_M_looks) 32 isM rfl l_M_202 C_M_looks (c_M_looks l p he fa li sl be ov av bl kw sm ma mf mw cj h a (si a) (by omega) (by unfold si; split <;> omega)) (emM ..) (Or.inl ⟨_, _, _, _, rfl, rfl⟩) rfl rfl rfl (Nat.le_of_ble_eq_true rfl) ⟨rfl, rfl, Nat.le_of_ble_eq_true rfl, Nat.le_of_ble_eq_true rfl⟩ ⟨Nat.zero_le _, Nat.zero_le _⟩ (fun out hq => ?_)
        obtain ⟨he', fa', li', sl', be', ov', rfl, hL⟩ := hq
        refine Z_mem (mgM ..) ?_
        obtain ⟨kk, uu, hA⟩ := hal (by omega)
        obtain ⟨e1, e2, e3, e4, e5, e6⟩ := hL kk uu hA
        rw [e1, e2, e3, e4, e5, e6]
        have hI := At_in h.1 hA
        have hb := mp_bd h.1 ⟨hI.1.1, hI.1.2.1⟩ hI.2.1
        have hlo := mp_lo h.1 ⟨hI.1.1, hI.1.2.1⟩ hI.2.1
        refine Z_ifb_ne 33 rfl (tgt := 63) rfl (fun c57 => ?_) (fun c57 => ?_)
        rotate_left
        · exact absurd ⟨kk, uu, hA⟩ c57
        refine Z_aload_n 35 rfl rfl rfl ?_
        refine Z_get 36 rfl f_M_187 rfl rfl ?_
        refine Z_ldc2 37 rfl k_M_227 (c := 2000) rfl ?_
        refine Z_aload_n 38 rfl rfl rfl ?_
        refine Z_get 39 rfl f_M_179 rfl rfl ?_
        refine Z_lmul 40 rfl ?_
        refine Z_ladd 41 rfl ?_
        refine Z_cl (show _ = mpL p.t kk uu + 2000 * mpO p.t kk from rfl) ?_
        refine Z_lstore 42 rfl (Nat.le_of_ble_eq_true rfl) (lv' := [(8, .long _), (0, .ref _), (1, .int _), (2, .int _), (3, .long _), (5, .long _), (7, .int _)]) rfl ?_
        refine Z_iload 43 rfl rfl ?_
        refine Z_if_eq 44 rfl (tgt := 120) rfl (by omega) (fun c80 => ?_) (fun c80 => ?_)
        · refine Z_iconst 62 rfl ?_
          refine Z_goto 63 rfl (tgt := 125) rfl ?_
          refine Z_istore 65 rfl (Nat.le_of_ble_eq_true rfl) (lv' := [(10, .int _), (8, .long _), (0, .ref _), (1, .int _), (2, .int _), (3, .long _), (5, .long _), (7, .int _)]) rfl ?_
          refine Z_iload 66 rfl rfl ?_
          refine Z_if_ne 67 rfl (tgt := 135) rfl (by omega) (fun c129 => ?_) (fun c129 => ?_)
          · refine Z_iload 69 rfl rfl ?_
            refine Z_istore_n 70 rfl rfl (Nat.le_of_ble_eq_true rfl) (lv' := [(2, .int _), (10, .int _), (8, .long _), (0, .ref _), (1, .int _), (3, .long _), (5, .long _), (7, .int _)]) rfl ?_
            refine Z_lload 71 rfl rfl ?_
            refine Z_lstore_n 72 rfl rfl (Nat.le_of_ble_eq_true rfl) (lv' := [(3, .long _), (2, .int _), (10, .int _), (8, .long _), (0, .ref _), (1, .int _), (5, .long _), (7, .int _)]) rfl ?_
            refine Z_aload_n 73 rfl rfl rfl ?_
            refine Z_get 74 rfl f_M_179 rfl rfl ?_
            refine Z_lstore 75 rfl (Nat.le_of_ble_eq_true rfl) (lv' := [(5, .long _), (3, .long _), (2, .int _), (10, .int _), (8, .long _), (0, .ref _), (1, .int _), (7, .int _)]) rfl ?_
            refine Z_iinc 76 rfl rfl (Nat.le_of_ble_eq_true rfl) (lv' := [(7, .int _), (5, .long _), (3, .long _), (2, .int _), (10, .int _), (8, .long _), (0, .ref _), (1, .int _)]) rfl ?_
            refine Z_goto 77 rfl (tgt := 32) rfl ?_
            refine Z_pick [0, 1, 2, 3, 5, 7] (lv' := [(0, .ref _), (1, .int _), (2, .int _), (3, .long _), (5, .long _), (7, .int _)]) rfl ?_
            first
              | (exfalso; omega)
              | (have ez : a = 0 := by omega
                 refine ih (a + 1) a _ _ _ _ _ _ _ _ (by omega) (Or.inr ⟨by omega, ?_⟩) (by omega) (by omega)
                 rw [ez] at hA ⊢
                 exact ex_new h.1 hA)
              | (refine ih (a + 1) v x y _ _ _ _ _ _ (by omega) (Or.inr ⟨by omega, ex_keep h.1 (by omega) (h2.resolve_left (by omega)).2 hA ?_⟩) h3 (by omega)
                 unfold btr
                 omega)
              | (refine ih (a + 1) a _ _ _ _ _ _ _ _ (by omega) (Or.inr ⟨by omega, ex_upd h.1 (by omega) (h2.resolve_left (by omega)).2 hA ?_⟩) (by omega) (by omega)
                 unfold btr
                 omega)
          · refine Z_goto 68 rfl (tgt := 147) rfl ?_
            refine Z_iinc 76 rfl rfl (Nat.le_of_ble_eq_true rfl) (lv' := [(7, .int _), (10, .int _), (8, .long _), (0, .ref _), (1, .int _), (2, .int _), (3, .long _), (5, .long _)]) rfl ?_
            refine Z_goto 77 rfl (tgt := 32) rfl ?_
            refine Z_pick [0, 1, 2, 3, 5, 7] (lv' := [(0, .ref _), (1, .int _), (2, .int _), (3, .long _), (5, .long _), (7, .int _)]) rfl ?_
            first
              | (exfalso; omega)
              | (have ez : a = 0 := by omega
                 refine ih (a + 1) a _ _ _ _ _ _ _ _ (by omega) (Or.inr ⟨by omega, ?_⟩) (by omega) (by omega)
                 rw [ez] at hA ⊢
                 exact ex_new h.1 hA)
              | (refine ih (a + 1) v x y _ _ _ _ _ _ (by omega) (Or.inr ⟨by omega, ex_keep h.1 (by omega) (h2.resolve_left (by omega)).2 hA ?_⟩) h3 (by omega)
                 unfold btr
                 omega)
              | (refine ih (a + 1) a _ _ _ _ _ _ _ _ (by omega) (Or.inr ⟨by omega, ex_upd h.1 (by omega) (h2.resolve_left (by omega)).2 hA ?_⟩) (by omega) (by omega)
                 unfold btr
                 omega)
        · refine Z_iload_n 45 rfl rfl rfl ?_
          refine Z_if_ne 46 rfl (tgt := 105) rfl (by omega) (fun c84 => ?_) (fun c84 => ?_)
          · refine Z_lload 55 rfl rfl ?_
            refine Z_aload_n 56 rfl rfl rfl ?_
            refine Z_get 57 rfl f_M_179 rfl rfl ?_
            refine Z_lload_n 58 rfl rfl rfl ?_
            refine Z_lload 59 rfl rfl ?_
            refine Z_callSbp (M' := M_M_isLess) 60 [] rfl l_M_229 C_M_isLess (c_M_isLess l (mpL p.t kk uu + 2000 * mpO p.t kk) (mpO p.t kk) x y (by omega) (by omega) (by omega) (by omega)) ⟨List.nodup_nil, zEL.n⟩ rfl rfl rfl (Nat.le_of_ble_eq_true rfl) ⟨rfl, rfl, Nat.le_of_ble_eq_true rfl, Nat.le_of_ble_eq_true rfl⟩ ⟨Nat.zero_le _, Nat.zero_le _⟩ ?_
            refine Z_ifb_eq 61 rfl (tgt := 124) rfl (fun c117 => ?_) (fun c117 => ?_)
            · refine Z_iconst 64 rfl ?_
              refine Z_istore 65 rfl (Nat.le_of_ble_eq_true rfl) (lv' := [(10, .int _), (8, .long _), (0, .ref _), (1, .int _), (2, .int _), (3, .long _), (5, .long _), (7, .int _)]) rfl ?_
              refine Z_iload 66 rfl rfl ?_
              refine Z_if_ne 67 rfl (tgt := 135) rfl (by omega) (fun c129 => ?_) (fun c129 => ?_)
              · refine Z_iload 69 rfl rfl ?_
                refine Z_istore_n 70 rfl rfl (Nat.le_of_ble_eq_true rfl) (lv' := [(2, .int _), (10, .int _), (8, .long _), (0, .ref _), (1, .int _), (3, .long _), (5, .long _), (7, .int _)]) rfl ?_
                refine Z_lload 71 rfl rfl ?_
                refine Z_lstore_n 72 rfl rfl (Nat.le_of_ble_eq_true rfl) (lv' := [(3, .long _), (2, .int _), (10, .int _), (8, .long _), (0, .ref _), (1, .int _), (5, .long _), (7, .int _)]) rfl ?_
                refine Z_aload_n 73 rfl rfl rfl ?_
                refine Z_get 74 rfl f_M_179 rfl rfl ?_
                refine Z_lstore 75 rfl (Nat.le_of_ble_eq_true rfl) (lv' := [(5, .long _), (3, .long _), (2, .int _), (10, .int _), (8, .long _), (0, .ref _), (1, .int _), (7, .int _)]) rfl ?_
                refine Z_iinc 76 rfl rfl (Nat.le_of_ble_eq_true rfl) (lv' := [(7, .int _), (5, .long _), (3, .long _), (2, .int _), (10, .int _), (8, .long _), (0, .ref _), (1, .int _)]) rfl ?_
                refine Z_goto 77 rfl (tgt := 32) rfl ?_
                refine Z_pick [0, 1, 2, 3, 5, 7] (lv' := [(0, .ref _), (1, .int _), (2, .int _), (3, .long _), (5, .long _), (7, .int _)]) rfl ?_
                first
                  | (exfalso; omega)
                  | (have ez : a = 0 := by omega
                     refine ih (a + 1) a _ _ _ _ _ _ _ _ (by omega) (Or.inr ⟨by omega, ?_⟩) (by omega) (by omega)
                     rw [ez] at hA ⊢
                     exact ex_new h.1 hA)
                  | (refine ih (a + 1) v x y _ _ _ _ _ _ (by omega) (Or.inr ⟨by omega, ex_keep h.1 (by omega) (h2.resolve_left (by omega)).2 hA ?_⟩) h3 (by omega)
                     unfold btr
                     omega)
                  | (refine ih (a + 1) a _ _ _ _ _ _ _ _ (by omega) (Or.inr ⟨by omega, ex_upd h.1 (by omega) (h2.resolve_left (by omega)).2 hA ?_⟩) (by omega) (by omega)
                     unfold btr
                     omega)
              · refine Z_goto 68 rfl (tgt := 147) rfl ?_
                refine Z_iinc 76 rfl rfl (Nat.le_of_ble_eq_true rfl) (lv' := [(7, .int _), (10, .int _), (8, .long _), (0, .ref _), (1, .int _), (2, .int _), (3, .long _), (5, .long _)]) rfl ?_
                refine Z_goto 77 rfl (tgt := 32) rfl ?_
                refine Z_pick [0, 1, 2, 3, 5, 7] (lv' := [(0, .ref _), (1, .int _), (2, .int _), (3, .long _), (5, .long _), (7, .int _)]) rfl ?_
                first
                  | (exfalso; omega)
                  | (have ez : a = 0 := by omega
                     refine ih (a + 1) a _ _ _ _ _ _ _ _ (by omega) (Or.inr ⟨by omega, ?_⟩) (by omega) (by omega)
                     rw [ez] at hA ⊢
                     exact ex_new h.1 hA)
                  | (refine ih (a + 1) v x y _ _ _ _ _ _ (by omega) (Or.inr ⟨by omega, ex_keep h.1 (by omega) (h2.resolve_left (by omega)).2 hA ?_⟩) h3 (by omega)
                     unfold btr
                     omega)
                  | (refine ih (a + 1) a _ _ _ _ _ _ _ _ (by omega) (Or.inr ⟨by omega, ex_upd h.1 (by omega) (h2.resolve_left (by omega)).2 hA ?_⟩) (by omega) (by omega)
                     unfold btr
                     omega)
            · refine Z_iconst 62 rfl ?_
              refine Z_goto 63 rfl (tgt := 125) rfl ?_
              refine Z_istore 65 rfl (Nat.le_of_ble_eq_true rfl) (lv' := [(10, .int _), (8, .long _), (0, .ref _), (1, .int _), (2, .int _), (3, .long _), (5, .long _), (7, .int _)]) rfl ?_
              refine Z_iload 66 rfl rfl ?_
              refine Z_if_ne 67 rfl (tgt := 135) rfl (by omega) (fun c129 => ?_) (fun c129 => ?_)
              · refine Z_iload 69 rfl rfl ?_
                refine Z_istore_n 70 rfl rfl (Nat.le_of_ble_eq_true rfl) (lv' := [(2, .int _), (10, .int _), (8, .long _), (0, .ref _), (1, .int _), (3, .long _), (5, .long _), (7, .int _)]) rfl ?_
                refine Z_lload 71 rfl rfl ?_
                refine Z_lstore_n 72 rfl rfl (Nat.le_of_ble_eq_true rfl) (lv' := [(3, .long _), (2, .int _), (10, .int _), (8, .long _), (0, .ref _), (1, .int _), (5, .long _), (7, .int _)]) rfl ?_
                refine Z_aload_n 73 rfl rfl rfl ?_
                refine Z_get 74 rfl f_M_179 rfl rfl ?_
                refine Z_lstore 75 rfl (Nat.le_of_ble_eq_true rfl) (lv' := [(5, .long _), (3, .long _), (2, .int _), (10, .int _), (8, .long _), (0, .ref _), (1, .int _), (7, .int _)]) rfl ?_
                refine Z_iinc 76 rfl rfl (Nat.le_of_ble_eq_true rfl) (lv' := [(7, .int _), (5, .long _), (3, .long _), (2, .int _), (10, .int _), (8, .long _), (0, .ref _), (1, .int _)]) rfl ?_
                refine Z_goto 77 rfl (tgt := 32) rfl ?_
                refine Z_pick [0, 1, 2, 3, 5, 7] (lv' := [(0, .ref _), (1, .int _), (2, .int _), (3, .long _), (5, .long _), (7, .int _)]) rfl ?_
                first
                  | (exfalso; omega)
                  | (have ez : a = 0 := by omega
                     refine ih (a + 1) a _ _ _ _ _ _ _ _ (by omega) (Or.inr ⟨by omega, ?_⟩) (by omega) (by omega)
                     rw [ez] at hA ⊢
                     exact ex_new h.1 hA)
                  | (refine ih (a + 1) v x y _ _ _ _ _ _ (by omega) (Or.inr ⟨by omega, ex_keep h.1 (by omega) (h2.resolve_left (by omega)).2 hA ?_⟩) h3 (by omega)
                     unfold btr
                     omega)
                  | (refine ih (a + 1) a _ _ _ _ _ _ _ _ (by omega) (Or.inr ⟨by omega, ex_upd h.1 (by omega) (h2.resolve_left (by omega)).2 hA ?_⟩) (by omega) (by omega)
                     unfold btr
                     omega)
              · refine Z_goto 68 rfl (tgt := 147) rfl ?_
                refine Z_iinc 76 rfl rfl (Nat.le_of_ble_eq_true rfl) (lv' := [(7, .int _), (10, .int _), (8, .long _), (0, .ref _), (1, .int _), (2, .int _), (3, .long _), (5, .long _)]) rfl ?_
                refine Z_goto 77 rfl (tgt := 32) rfl ?_
                refine Z_pick [0, 1, 2, 3, 5, 7] (lv' := [(0, .ref _), (1, .int _), (2, .int _), (3, .long _), (5, .long _), (7, .int _)]) rfl ?_
                first
                  | (exfalso; omega)
                  | (have ez : a = 0 := by omega
                     refine ih (a + 1) a _ _ _ _ _ _ _ _ (by omega) (Or.inr ⟨by omega, ?_⟩) (by omega) (by omega)
                     rw [ez] at hA ⊢
                     exact ex_new h.1 hA)
                  | (refine ih (a + 1) v x y _ _ _ _ _ _ (by omega) (Or.inr ⟨by omega, ex_keep h.1 (by omega) (h2.resolve_left (by omega)).2 hA ?_⟩) h3 (by omega)
                     unfold btr
                     omega)
                  | (refine ih (a + 1) a _ _ _ _ _ _ _ _ (by omega) (Or.inr ⟨by omega, ex_upd h.1 (by omega) (h2.resolve_left (by omega)).2 hA ?_⟩) (by omega) (by omega)
                     unfold btr
                     omega)
          · refine Z_lload_n 47 rfl rfl rfl ?_
            refine Z_lload 48 rfl rfl ?_
            refine Z_lload 49 rfl rfl ?_
            refine Z_aload_n 50 rfl rfl rfl ?_
            refine Z_get 51 rfl f_M_179 rfl rfl ?_
            refine Z_callSbp (M' := M_M_isLess) 52 [] rfl l_M_229 C_M_isLess (c_M_isLess l x y (mpL p.t kk uu + 2000 * mpO p.t kk) (mpO p.t kk) (by omega) (by omega) (by omega) (by omega)) ⟨List.nodup_nil, zEL.n⟩ rfl rfl rfl (Nat.le_of_ble_eq_true rfl) ⟨rfl, rfl, Nat.le_of_ble_eq_true rfl, Nat.le_of_ble_eq_true rfl⟩ ⟨Nat.zero_le _, Nat.zero_le _⟩ ?_
            refine Z_ifb_eq 53 rfl (tgt := 124) rfl (fun c99 => ?_) (fun c99 => ?_)
            · refine Z_iconst 64 rfl ?_
              refine Z_istore 65 rfl (Nat.le_of_ble_eq_true rfl) (lv' := [(10, .int _), (8, .long _), (0, .ref _), (1, .int _), (2, .int _), (3, .long _), (5, .long _), (7, .int _)]) rfl ?_
              refine Z_iload 66 rfl rfl ?_
              refine Z_if_ne 67 rfl (tgt := 135) rfl (by omega) (fun c129 => ?_) (fun c129 => ?_)
              · refine Z_iload 69 rfl rfl ?_
                refine Z_istore_n 70 rfl rfl (Nat.le_of_ble_eq_true rfl) (lv' := [(2, .int _), (10, .int _), (8, .long _), (0, .ref _), (1, .int _), (3, .long _), (5, .long _), (7, .int _)]) rfl ?_
                refine Z_lload 71 rfl rfl ?_
                refine Z_lstore_n 72 rfl rfl (Nat.le_of_ble_eq_true rfl) (lv' := [(3, .long _), (2, .int _), (10, .int _), (8, .long _), (0, .ref _), (1, .int _), (5, .long _), (7, .int _)]) rfl ?_
                refine Z_aload_n 73 rfl rfl rfl ?_
                refine Z_get 74 rfl f_M_179 rfl rfl ?_
                refine Z_lstore 75 rfl (Nat.le_of_ble_eq_true rfl) (lv' := [(5, .long _), (3, .long _), (2, .int _), (10, .int _), (8, .long _), (0, .ref _), (1, .int _), (7, .int _)]) rfl ?_
                refine Z_iinc 76 rfl rfl (Nat.le_of_ble_eq_true rfl) (lv' := [(7, .int _), (5, .long _), (3, .long _), (2, .int _), (10, .int _), (8, .long _), (0, .ref _), (1, .int _)]) rfl ?_
                refine Z_goto 77 rfl (tgt := 32) rfl ?_
                refine Z_pick [0, 1, 2, 3, 5, 7] (lv' := [(0, .ref _), (1, .int _), (2, .int _), (3, .long _), (5, .long _), (7, .int _)]) rfl ?_
                first
                  | (exfalso; omega)
                  | (have ez : a = 0 := by omega
                     refine ih (a + 1) a _ _ _ _ _ _ _ _ (by omega) (Or.inr ⟨by omega, ?_⟩) (by omega) (by omega)
                     rw [ez] at hA ⊢
                     exact ex_new h.1 hA)
                  | (refine ih (a + 1) v x y _ _ _ _ _ _ (by omega) (Or.inr ⟨by omega, ex_keep h.1 (by omega) (h2.resolve_left (by omega)).2 hA ?_⟩) h3 (by omega)
                     unfold btr
                     omega)
                  | (refine ih (a + 1) a _ _ _ _ _ _ _ _ (by omega) (Or.inr ⟨by omega, ex_upd h.1 (by omega) (h2.resolve_left (by omega)).2 hA ?_⟩) (by omega) (by omega)
                     unfold btr
                     omega)
              · refine Z_goto 68 rfl (tgt := 147) rfl ?_
                refine Z_iinc 76 rfl rfl (Nat.le_of_ble_eq_true rfl) (lv' := [(7, .int _), (10, .int _), (8, .long _), (0, .ref _), (1, .int _), (2, .int _), (3, .long _), (5, .long _)]) rfl ?_
                refine Z_goto 77 rfl (tgt := 32) rfl ?_
                refine Z_pick [0, 1, 2, 3, 5, 7] (lv' := [(0, .ref _), (1, .int _), (2, .int _), (3, .long _), (5, .long _), (7, .int _)]) rfl ?_
                first
                  | (exfalso; omega)
                  | (have ez : a = 0 := by omega
                     refine ih (a + 1) a _ _ _ _ _ _ _ _ (by omega) (Or.inr ⟨by omega, ?_⟩) (by omega) (by omega)
                     rw [ez] at hA ⊢
                     exact ex_new h.1 hA)
                  | (refine ih (a + 1) v x y _ _ _ _ _ _ (by omega) (Or.inr ⟨by omega, ex_keep h.1 (by omega) (h2.resolve_left (by omega)).2 hA ?_⟩) h3 (by omega)
                     unfold btr
                     omega)
                  | (refine ih (a + 1) a _ _ _ _ _ _ _ _ (by omega) (Or.inr ⟨by omega, ex_upd h.1 (by omega) (h2.resolve_left (by omega)).2 hA ?_⟩) (by omega) (by omega)
                     unfold btr
                     omega)
            · refine Z_goto 54 rfl (tgt := 120) rfl ?_
              refine Z_iconst 62 rfl ?_
              refine Z_goto 63 rfl (tgt := 125) rfl ?_
              refine Z_istore 65 rfl (Nat.le_of_ble_eq_true rfl) (lv' := [(10, .int _), (8, .long _), (0, .ref _), (1, .int _), (2, .int _), (3, .long _), (5, .long _), (7, .int _)]) rfl ?_
              refine Z_iload 66 rfl rfl ?_
              refine Z_if_ne 67 rfl (tgt := 135) rfl (by omega) (fun c129 => ?_) (fun c129 => ?_)
              · refine Z_iload 69 rfl rfl ?_
                refine Z_istore_n 70 rfl rfl (Nat.le_of_ble_eq_true rfl) (lv' := [(2, .int _), (10, .int _), (8, .long _), (0, .ref _), (1, .int _), (3, .long _), (5, .long _), (7, .int _)]) rfl ?_
                refine Z_lload 71 rfl rfl ?_
                refine Z_lstore_n 72 rfl rfl (Nat.le_of_ble_eq_true rfl) (lv' := [(3, .long _), (2, .int _), (10, .int _), (8, .long _), (0, .ref _), (1, .int _), (5, .long _), (7, .int _)]) rfl ?_
                refine Z_aload_n 73 rfl rfl rfl ?_
                refine Z_get 74 rfl f_M_179 rfl rfl ?_
                refine Z_lstore 75 rfl (Nat.le_of_ble_eq_true rfl) (lv' := [(5, .long _), (3, .long _), (2, .int _), (10, .int _), (8, .long _), (0, .ref _), (1, .int _), (7, .int _)]) rfl ?_
                refine Z_iinc 76 rfl rfl (Nat.le_of_ble_eq_true rfl) (lv' := [(7, .int _), (5, .long _), (3, .long _), (2, .int _), (10, .int _), (8, .long _), (0, .ref _), (1, .int _)]) rfl ?_
                refine Z_goto 77 rfl (tgt := 32) rfl ?_
                refine Z_pick [0, 1, 2, 3, 5, 7] (lv' := [(0, .ref _), (1, .int _), (2, .int _), (3, .long _), (5, .long _), (7, .int _)]) rfl ?_
                first
                  | (exfalso; omega)
                  | (have ez : a = 0 := by omega
                     refine ih (a + 1) a _ _ _ _ _ _ _ _ (by omega) (Or.inr ⟨by omega, ?_⟩) (by omega) (by omega)
                     rw [ez] at hA ⊢
                     exact ex_new h.1 hA)
                  | (refine ih (a + 1) v x y _ _ _ _ _ _ (by omega) (Or.inr ⟨by omega, ex_keep h.1 (by omega) (h2.resolve_left (by omega)).2 hA ?_⟩) h3 (by omega)
                     unfold btr
                     omega)
                  | (refine ih (a + 1) a _ _ _ _ _ _ _ _ (by omega) (Or.inr ⟨by omega, ex_upd h.1 (by omega) (h2.resolve_left (by omega)).2 hA ?_⟩) (by omega) (by omega)
                     unfold btr
                     omega)
              · refine Z_goto 68 rfl (tgt := 147) rfl ?_
                refine Z_iinc 76 rfl rfl (Nat.le_of_ble_eq_true rfl) (lv' := [(7, .int _), (10, .int _), (8, .long _), (0, .ref _), (1, .int _), (2, .int _), (3, .long _), (5, .long _)]) rfl ?_
                refine Z_goto 77 rfl (tgt := 32) rfl ?_
                refine Z_pick [0, 1, 2, 3, 5, 7] (lv' := [(0, .ref _), (1, .int _), (2, .int _), (3, .long _), (5, .long _), (7, .int _)]) rfl ?_
                first
                  | (exfalso; omega)
                  | (have ez : a = 0 := by omega
                     refine ih (a + 1) a _ _ _ _ _ _ _ _ (by omega) (Or.inr ⟨by omega, ?_⟩) (by omega) (by omega)
                     rw [ez] at hA ⊢
                     exact ex_new h.1 hA)
                  | (refine ih (a + 1) v x y _ _ _ _ _ _ (by omega) (Or.inr ⟨by omega, ex_keep h.1 (by omega) (h2.resolve_left (by omega)).2 hA ?_⟩) h3 (by omega)
                     unfold btr
                     omega)
                  | (refine ih (a + 1) a _ _ _ _ _ _ _ _ (by omega) (Or.inr ⟨by omega, ex_upd h.1 (by omega) (h2.resolve_left (by omega)).2 hA ?_⟩) (by omega) (by omega)
                     unfold btr
                     omega)
theorem c_M_extreme (h : MV p) (what : Int) (hw : inI what) (he fa li sl be ov : Int) : Con l M_M_extreme R_M_extreme 0 0 false [.ref 0, .int (iI what)] (eM p he fa li sl be ov av bl kw sm ma mf mw cj) (zAi (extF p.t what) (LM p av bl kw sm ma mf mw cj)) := by
  have h1 := h.1.1.1
  have ht := TV_tot h.1
  refine Con.of_Z (by decide) D_M_extreme (Nat.le_of_ble_eq_true rfl) ?_
  refine Z_iload_n 0 rfl rfl rfl ?_
  refine Z_i2l 1 rfl (by omega) ?_
  refine Z_lconst 2 rfl ?_
  refine Z_lconst 3 rfl ?_
  refine Z_callSbp (M' := M_M_in) 4 [] rfl l_M_80 C_M_in (c_M_in l _ _ _ (by omega) (by omega) (by omega)) ⟨List.nodup_nil, zEL.n⟩ rfl rfl rfl (Nat.le_of_ble_eq_true rfl) ⟨rfl, rfl, Nat.le_of_ble_eq_true rfl, Nat.le_of_ble_eq_true rfl⟩ ⟨Nat.zero_le _, Nat.zero_le _⟩ ?_
  refine Z_ifb_ne 5 rfl (tgt := 12) rfl (fun c7 => ?_) (fun c7 => ?_)
  · refine Z_aload_n 8 rfl rfl rfl ?_
    refine Z_get 9 rfl f_M_77 rfl rfl ?_
    refine Z_if_ne 10 rfl (tgt := 22) rfl (by omega) (fun c16 => ?_) (fun c16 => ?_)
    · refine Z_iconst 13 rfl ?_
      refine Z_istore_n 14 rfl rfl (Nat.le_of_ble_eq_true rfl) (lv' := [(2, .int _), (0, .ref _), (1, .int _)]) rfl ?_
      refine Z_lconst 15 rfl ?_
      refine Z_lstore_n 16 rfl rfl (Nat.le_of_ble_eq_true rfl) (lv' := [(3, .long _), (2, .int _), (0, .ref _), (1, .int _)]) rfl ?_
      refine Z_lconst 17 rfl ?_
      refine Z_lstore 18 rfl (Nat.le_of_ble_eq_true rfl) (lv' := [(5, .long _), (3, .long _), (2, .int _), (0, .ref _), (1, .int _)]) rfl ?_
      refine Z_iconst 19 rfl ?_
      refine Z_istore 20 rfl (Nat.le_of_ble_eq_true rfl) (lv' := [(7, .int _), (5, .long _), (3, .long _), (2, .int _), (0, .ref _), (1, .int _)]) rfl ?_
      refine Z_pick [0, 1, 2, 3, 5, 7] (lv' := [(0, .ref _), (1, .int _), (2, .int _), (3, .long _), (5, .long _), (7, .int _)]) rfl ?_
      unfold extF
      rw [cif_t (by omega), cif_f (by omega)]
      by_cases w : what = 0
      · rw [if_pos w]
        exact lp_M_extreme l p av bl kw sm ma mf mw cj h (by omega) what 1 (by omega) 362 0 0 0 1 _ _ _ _ _ _ (by omega) (Or.inl ⟨rfl, rfl⟩) (by omega) (by omega)
      · rw [if_neg w]
        exact lp_M_extreme l p av bl kw sm ma mf mw cj h (by omega) what (-1) (by omega) 362 0 0 0 1 _ _ _ _ _ _ (by omega) (Or.inl ⟨rfl, rfl⟩) (by omega) (by omega)
    · refine Z_bipush 11 rfl rfl ?_
      refine Z_iret 12 rfl rfl ⟨Nat.le_refl _, Nat.le_refl _⟩ ?_
      exact ⟨by unfold extF; (repeat (first | rw [cif_t (by first | assumption | omega)] | rw [cif_f (by first | assumption | omega)])), _, _, _, _, _, _, rfl⟩
  · refine Z_iconst 6 rfl ?_
    refine Z_iret 7 rfl rfl ⟨Nat.le_refl _, Nat.le_refl _⟩ ?_
    exact ⟨by unfold extF; (repeat (first | rw [cif_t (by first | assumption | omega)] | rw [cif_f (by first | assumption | omega)])), _, _, _, _, _, _, rfl⟩
end M7
