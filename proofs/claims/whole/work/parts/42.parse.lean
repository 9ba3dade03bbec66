/-! a text of pieces -/
def bt (b : Int → Int) (n k : Int) : Int := if k < n then b k else -1
abbrev isL (x : Int) : Prop := 97 ≤ x ∧ x ≤ 122
abbrev isF (x : Int) : Prop := 48 ≤ x ∧ x ≤ 57
def IsE (b : Int → Int) (n p e : Int) : Prop := p ≤ e ∧ (∀ k, p ≤ k → k < e → isL (bt b n k)) ∧ ¬ isL (bt b n e)
theorem IsE_un {b : Int → Int} {n p e e' : Int} (h : IsE b n p e) (h' : IsE b n p e') : e = e' := by
  obtain ⟨h1, h2, h3⟩ := h
  obtain ⟨g1, g2, g3⟩ := h'
  rcases Int.lt_trichotomy e e' with z | z | z
  · exact absurd (g2 e h1 z) h3
  · exact z
  · exact absurd (h2 e' g1 z) g3
noncomputable def wE (b : Int → Int) (n p : Int) : Int := theI (IsE b n p)
theorem wE_eq {b : Int → Int} {n p e : Int} (h : IsE b n p e) : wE b n p = e := theI_eq h (fun x hx => IsE_un hx h)
theorem IsE_le {b : Int → Int} {n p e : Int} (h : IsE b n p e) (hp : p ≤ n) : e ≤ n := by
  rcases Int.lt_or_le n e with z | z
  · exfalso
    have := h.2.1 n hp z
    unfold bt at this
    rw [if_neg (by omega)] at this
    omega
  · exact z
def wln (k : Int) : Int := if k = 0 then 5 else if k = 1 then 4 else if k = 2 then 5 else if k = 3 then 4 else if k = 4 then 5 else 7
/-- word number k stands from p to e -/
def IsW (b : Int → Int) (p e k : Int) : Prop := e - p = wln k ∧ ∀ i, 0 ≤ i → i < wln k → b (p + i) = stB k.toNat i
def kdP (b : Int → Int) (p e k : Int) : Prop := 0 ≤ k ∧ k ≤ 5 ∧ IsW b p e k
noncomputable def kd2 (b : Int → Int) (n p : Int) : Int := cif (lstA (kdP b p (wE b n p)) < 0) (-1) (lstA (kdP b p (wE b n p)))
theorem kd2_y {b : Int → Int} {n p e k : Int} (hE : IsE b n p e) (h1 : kdP b p e k) (h2 : ∀ j, 0 ≤ j → j < k → ¬ IsW b p e j) : kd2 b n p = k := by
  unfold kd2
  rw [wE_eq hE, lstA_eq (P := kdP b p e) (v := k) (Or.inl ⟨h1, fun x hx => by
    rcases Int.lt_or_le x k with z | z
    · exact absurd hx.2.2 (h2 x hx.1 z)
    · exact z⟩), cif_f (by have := h1.1; omega)]
theorem kd2_n {b : Int → Int} {n p e : Int} (hE : IsE b n p e) (h2 : ∀ j, 0 ≤ j → j < 6 → ¬ IsW b p e j) : kd2 b n p = -1 := by
  unfold kd2
  rw [wE_eq hE, lstA_eq (P := kdP b p e) (v := -5) (Or.inr ⟨rfl, fun x hx => h2 x hx.1 (by have := hx.2.1; omega) hx.2.2⟩), cif_t (by omega)]
/-- so many figures at most -/
def fg (b : Int → Int) (n : Int) : Nat → Int → Int → Int × Int
  | 0, p, v => (v, p)
  | m + 1, p, v => if isF (bt b n p) then fg b n m (p + 1) (v * 10 + bt b n p - 48) else (v, p)
theorem fg_t {b : Int → Int} {n : Int} {m : Nat} {p v : Int} (h : isF (bt b n p)) : fg b n (m + 1) p v = fg b n m (p + 1) (v * 10 + bt b n p - 48) := by
  show (if isF (bt b n p) then fg b n m (p + 1) (v * 10 + bt b n p - 48) else (v, p)) = _
  rw [if_pos h]
theorem fg_f {b : Int → Int} {n : Int} {m : Nat} {p v : Int} (h : ¬ isF (bt b n p)) : fg b n (m + 1) p v = (v, p) := by
  show (if isF (bt b n p) then fg b n m (p + 1) (v * 10 + bt b n p - 48) else (v, p)) = _
  rw [if_neg h]
def ten : Nat → Int
  | 0 => 1
  | m + 1 => 10 * ten m
theorem bt_f {b : Int → Int} {n p : Int} (h : isF (bt b n p)) : p < n := by
  unfold bt at h
  split at h
  · assumption
  · omega
theorem fg_bd (b : Int → Int) (n : Int) : ∀ (m : Nat) (p v : Int), 0 ≤ v → p ≤ n → (p ≤ (fg b n m p v).2 ∧ (fg b n m p v).2 ≤ n) ∧ (0 ≤ (fg b n m p v).1 ∧ (fg b n m p v).1 + 1 ≤ (v + 1) * ten m) ∧ ((fg b n m p v).2 = p → (fg b n m p v).1 = v) := by
  intro m
  induction m with
  | zero =>
    intro p v h1 h2
    show (p ≤ p ∧ p ≤ n) ∧ (0 ≤ v ∧ v + 1 ≤ (v + 1) * 1) ∧ (p = p → v = v)
    omega
  | succ m ih =>
    intro p v h1 h2
    have ht : 1 ≤ ten m := by
      have : ∀ k : Nat, 1 ≤ ten k := by
        intro k
        induction k with
        | zero => exact Int.le_refl _
        | succ k ihk =>
          show 1 ≤ 10 * ten k
          omega
      exact this m
    have h10 : ten (m + 1) = 10 * ten m := rfl
    by_cases hf : isF (bt b n p)
    · rw [fg_t hf]
      have := ih (p + 1) (v * 10 + bt b n p - 48) (by omega) (by have := bt_f hf; omega)
      obtain ⟨⟨a1, a2⟩, ⟨a3, a4⟩, a5⟩ := this
      refine ⟨⟨by omega, a2⟩, ⟨a3, ?_⟩, fun z => by omega⟩
      have e : (v + 1) * ten (m + 1) = (v * 10 + 10) * ten m := by rw [h10]; grind
      have := Int.mul_le_mul_of_nonneg_right (show v * 10 + bt b n p - 48 + 1 ≤ v * 10 + 10 by omega) (show 0 ≤ ten m by omega)
      omega
    · rw [fg_f hf]
      refine ⟨⟨Int.le_refl _, h2⟩, ⟨h1, ?_⟩, fun _ => rfl⟩
      show v + 1 ≤ (v + 1) * ten (m + 1)
      have := Int.mul_le_mul_of_nonneg_left (show 1 ≤ ten (m + 1) by omega) (show 0 ≤ v + 1 by omega)
      omega
theorem fg3_bd (b : Int → Int) {n p : Int} (hp : p ≤ n) : (p ≤ (fg b n 3 p 0).2 ∧ (fg b n 3 p 0).2 ≤ n) ∧ (0 ≤ (fg b n 3 p 0).1 ∧ (fg b n 3 p 0).1 ≤ 999) ∧ ((fg b n 3 p 0).2 = p → (fg b n 3 p 0).1 = 0) := by
  obtain ⟨h1, h2, h3⟩ := fg_bd b n 3 p 0 (Int.le_refl 0) hp
  have e : ten 3 = 1000 := rfl
  refine ⟨h1, ⟨h2.1, ?_⟩, h3⟩
  rw [e] at h2
  omega
theorem fg2_bd (b : Int → Int) {n p : Int} (hp : p ≤ n) : (p ≤ (fg b n 2 p 0).2 ∧ (fg b n 2 p 0).2 ≤ n) ∧ (0 ≤ (fg b n 2 p 0).1 ∧ (fg b n 2 p 0).1 ≤ 99) ∧ ((fg b n 2 p 0).2 = p → (fg b n 2 p 0).1 = 0) := by
  obtain ⟨h1, h2, h3⟩ := fg_bd b n 2 p 0 (Int.le_refl 0) hp
  have e : ten 2 = 100 := rfl
  refine ⟨h1, ⟨h2.1, ?_⟩, h3⟩
  rw [e] at h2
  omega
/-- what comes of a piece: it is one (1, kind, long, rise, behind it), or (0, where, why) -/
abbrev PRt : Type := Int × Int × Int × Int × Int
def fl (n p why : Int) : PRt := (0, p, if p = n then 5 else why, 0, 0)
def rsV (b : Int → Int) (n p : Int) : Int := if bt b n p = 45 then -(fg b n 2 (p + 1) 0).1 else (fg b n 2 p 0).1
def rsP (b : Int → Int) (n p : Int) : Int := if bt b n p = 45 then (fg b n 2 (p + 1) 0).2 else (fg b n 2 p 0).2
def PR5 (b : Int → Int) (n k L p : Int) : PRt := if rsV b n p = 0 then fl n p 3 else (1, k, L, rsV b n p, rsP b n p)
def PR4 (b : Int → Int) (n k L p : Int) : PRt := if k = 0 then (1, k, L, 0, p) else if bt b n p = 32 then PR5 b n k L (p + 1) else fl n p 4
def PR3 (b : Int → Int) (n k e : Int) : PRt := if bt b n e = 32 then (if (fg b n 3 (e + 1) 0).1 < 1 ∨ 360 < (fg b n 3 (e + 1) 0).1 then fl n (e + 1) 2 else PR4 b n k (fg b n 3 (e + 1) 0).1 (fg b n 3 (e + 1) 0).2) else fl n e 4
noncomputable def PR (b : Int → Int) (n p : Int) : PRt := if kd2 b n p = -1 then fl n p 1 else PR3 b n (kd2 b n p) (wE b n p)
theorem rs_bd (b : Int → Int) {n p : Int} (hp : p ≤ n) : (-99 ≤ rsV b n p ∧ rsV b n p ≤ 99) ∧ (p ≤ rsP b n p ∧ rsP b n p ≤ n) := by
  unfold rsV rsP
  split
  · have hpn : p < n := by
      rename_i hq
      unfold bt at hq
      split at hq
      · assumption
      · omega
    have := fg2_bd b (show p + 1 ≤ n by omega)
    omega
  · have := fg2_bd b hp
    omega
theorem IsE_p {b : Int → Int} {n p : Int} : ∀ d : Nat, n - p ≤ d → p ≤ n → ∃ e, IsE b n p e := by
  intro d
  induction d generalizing p with
  | zero =>
    intro h1 h2
    refine ⟨p, Int.le_refl _, fun k k1 k2 => by omega, ?_⟩
    unfold bt
    rw [if_neg (by omega)]
    omega
  | succ d ih =>
    intro h1 h2
    by_cases hl : isL (bt b n p)
    · have hpn : p < n := by
        unfold bt at hl
        split at hl
        · assumption
        · omega
      obtain ⟨e, e1, e2, e3⟩ := ih (p := p + 1) (by omega) (by omega)
      refine ⟨e, by omega, fun k k1 k2 => ?_, e3⟩
      by_cases hk : k = p
      · rw [hk]; exact hl
      · exact e2 k (by omega) k2
    · exact ⟨p, Int.le_refl _, fun k k1 k2 => by omega, hl⟩
theorem wE_is (b : Int → Int) {n p : Int} (hp : p ≤ n) : IsE b n p (wE b n p) := by
  obtain ⟨e, he⟩ := IsE_p (b := b) (n := n) (p := p) (n - p).toNat (by omega) hp
  rw [wE_eq he]
  exact he
theorem kd2_bd (b : Int → Int) (n p : Int) : -1 ≤ kd2 b n p ∧ kd2 b n p ≤ 5 := by
  unfold kd2
  by_cases hz : lstA (kdP b p (wE b n p)) < 0
  · rw [cif_t hz]; omega
  · rw [cif_f hz]
    by_cases hx : ∃ k, kdP b p (wE b n p) k
    · obtain ⟨k, hk⟩ := hx
      refine ⟨by omega, ?_⟩
      have hl : IsLst (kdP b p (wE b n p)) (lstA (kdP b p (wE b n p))) := by
        have fd : ∀ d : Nat, ∀ j : Int, 0 ≤ j → j ≤ 6 → 6 - j ≤ d → (∀ i, 0 ≤ i → i < j → ¬ kdP b p (wE b n p) i) → ∃ v, IsLst (kdP b p (wE b n p)) v := by
          intro d
          induction d with
          | zero =>
            intro j j1 j2 j3 j4
            exact ⟨-5, Or.inr ⟨rfl, fun x hx => j4 x hx.1 (by have := hx.2.1; omega) hx⟩⟩
          | succ d ihd =>
            intro j j1 j2 j3 j4
            by_cases hq : kdP b p (wE b n p) j
            · exact ⟨j, Or.inl ⟨hq, fun x hx => by
                rcases Int.lt_or_le x j with z | z
                · exact absurd hx (j4 x hx.1 z)
                · exact z⟩⟩
            · by_cases hj6 : j = 6
              · exact ⟨-5, Or.inr ⟨rfl, fun x hx => j4 x hx.1 (by have := hx.2.1; omega) hx⟩⟩
              · exact ihd (j + 1) (by omega) (by omega) (by omega) (fun i i1 i2 => by
                  by_cases hi : i = j
                  · rw [hi]; exact hq
                  · exact j4 i i1 (by omega))
        obtain ⟨v, hv⟩ := fd 6 0 (by omega) (by omega) (by omega) (fun i i1 i2 => by omega)
        rw [lstA_eq hv]
        exact hv
      rcases hl with ⟨h1, -⟩ | ⟨h1, -⟩
      · exact h1.2.1
      · omega
    · have : lstA (kdP b p (wE b n p)) = -5 := lstA_eq (Or.inr ⟨rfl, fun x hx2 => hx ⟨x, hx2⟩⟩)
      omega
/-- a piece read is one that may be, and takes room -/
theorem PR_ok {b : Int → Int} {n p : Int} (hp : p ≤ n) (h : (PR b n p).1 ≠ 0) : mb (PR b n p).2.1 (PR b n p).2.2.1 (PR b n p).2.2.2.1 ∧ p < (PR b n p).2.2.2.2 ∧ (PR b n p).2.2.2.2 ≤ n := by
  have hE := wE_is b hp
  have hEn := IsE_le hE hp
  have hkd := kd2_bd b n p
  unfold PR at h ⊢
  by_cases h1 : kd2 b n p = -1
  · rw [if_pos h1] at h
    exact absurd rfl h
  · rw [if_neg h1] at h ⊢
    unfold PR3 at h ⊢
    by_cases h2 : bt b n (wE b n p) = 32
    · rw [if_pos h2] at h ⊢
      have hlt : wE b n p < n := by
        unfold bt at h2
        split at h2
        · assumption
        · omega
      obtain ⟨f1, f2, f3⟩ := fg3_bd b (show wE b n p + 1 ≤ n by omega)
      by_cases h3 : (fg b n 3 (wE b n p + 1) 0).1 < 1 ∨ 360 < (fg b n 3 (wE b n p + 1) 0).1
      · rw [if_pos h3] at h
        exact absurd rfl h
      · rw [if_neg h3] at h ⊢
        have hpe := hE.1
        unfold PR4 at h ⊢
        by_cases h4 : kd2 b n p = 0
        · rw [if_pos h4]
          unfold mb
          dsimp only
          omega
        · rw [if_neg h4] at h ⊢
          by_cases h5 : bt b n (fg b n 3 (wE b n p + 1) 0).2 = 32
          · rw [if_pos h5] at h ⊢
            have hl2 : (fg b n 3 (wE b n p + 1) 0).2 < n := by
              unfold bt at h5
              split at h5
              · assumption
              · omega
            have hr := rs_bd b (show (fg b n 3 (wE b n p + 1) 0).2 + 1 ≤ n by omega)
            unfold PR5 at h ⊢
            by_cases h6 : rsV b n ((fg b n 3 (wE b n p + 1) 0).2 + 1) = 0
            · rw [if_pos h6] at h
              exact absurd rfl h
            · rw [if_neg h6]
              unfold mb
              dsimp only
              omega
          · rw [if_neg h5] at h
            exact absurd rfl h
    · rw [if_neg h2] at h
      exact absurd rfl h
/-- a tape, piece by piece -/
noncomputable def tp (b : Int → Int) (n : Int) : Nat → Int → TT → Int × Int × Int × TT
  | 0, _, cs => (0, -1, -5, cs)
  | f + 1, p, cs => if (PR b n p).1 = 0 then (0, (PR b n p).2.1, (PR b n p).2.2.1, cs) else if (PR b n p).2.2.2.2 = n then (1, 0, 0, tAp cs (PR b n p).2.1 (PR b n p).2.2.1 (PR b n p).2.2.2.1) else if bt b n (PR b n p).2.2.2.2 = 59 then tp b n f ((PR b n p).2.2.2.2 + 1) (tAp cs (PR b n p).2.1 (PR b n p).2.2.1 (PR b n p).2.2.2.1) else (0, (PR b n p).2.2.2.2, 4, tAp cs (PR b n p).2.1 (PR b n p).2.2.1 (PR b n p).2.2.2.1)
noncomputable def tpI (b : Int → Int) (n p : Int) (cs : TT) : Int × Int × Int × TT := tp b n ((n - p).toNat + 1) p cs
theorem tp_fuel {b : Int → Int} {n : Int} : ∀ (f f' : Nat) (p : Int) (cs : TT), p ≤ n → n - p < f → n - p < f' → tp b n f p cs = tp b n f' p cs := by
  intro f
  induction f with
  | zero => intro f' p cs h1 h2; omega
  | succ f ih =>
    intro f' p cs h1 h2 h3
    cases f' with
    | zero => omega
    | succ f' =>
      unfold tp
      by_cases c1 : (PR b n p).1 = 0
      · rw [if_pos c1, if_pos c1]
      · rw [if_neg c1, if_neg c1]
        have hk := PR_ok h1 c1
        by_cases c2 : (PR b n p).2.2.2.2 = n
        · rw [if_pos c2, if_pos c2]
        · rw [if_neg c2, if_neg c2]
          by_cases c3 : bt b n (PR b n p).2.2.2.2 = 59
          · rw [if_pos c3, if_pos c3]
            exact ih f' _ _ (by omega) (by omega) (by omega)
          · rw [if_neg c3, if_neg c3]
theorem tpI_0 {b : Int → Int} {n p : Int} {cs : TT} (c1 : (PR b n p).1 = 0) : tpI b n p cs = (0, (PR b n p).2.1, (PR b n p).2.2.1, cs) := by
  unfold tpI tp
  rw [if_pos c1]
theorem tpI_1 {b : Int → Int} {n p : Int} {cs : TT} (c1 : (PR b n p).1 ≠ 0) (c2 : (PR b n p).2.2.2.2 = n) : tpI b n p cs = (1, 0, 0, tAp cs (PR b n p).2.1 (PR b n p).2.2.1 (PR b n p).2.2.2.1) := by
  unfold tpI tp
  rw [if_neg c1, if_pos c2]
theorem tpI_2 {b : Int → Int} {n p : Int} {cs : TT} (c1 : (PR b n p).1 ≠ 0) (c2 : (PR b n p).2.2.2.2 ≠ n) (c3 : bt b n (PR b n p).2.2.2.2 ≠ 59) : tpI b n p cs = (0, (PR b n p).2.2.2.2, 4, tAp cs (PR b n p).2.1 (PR b n p).2.2.1 (PR b n p).2.2.2.1) := by
  unfold tpI tp
  rw [if_neg c1, if_neg c2, if_neg c3]
theorem tpI_3 {b : Int → Int} {n p : Int} {cs : TT} (hp : p ≤ n) (c1 : (PR b n p).1 ≠ 0) (c2 : (PR b n p).2.2.2.2 ≠ n) (c3 : bt b n (PR b n p).2.2.2.2 = 59) : tpI b n p cs = tpI b n ((PR b n p).2.2.2.2 + 1) (tAp cs (PR b n p).2.1 (PR b n p).2.2.1 (PR b n p).2.2.2.1) := by
  have hk := PR_ok hp c1
  show tp b n ((n - p).toNat + 1) p cs = tp b n ((n - ((PR b n p).2.2.2.2 + 1)).toNat + 1) _ _
  rw [tp]
  rw [if_neg c1, if_neg c2, if_pos c3]
  exact tp_fuel _ _ _ _ (by omega) (by omega) (by omega)
def cs0 : TT := (fun _ => 0, fun _ => 0, fun _ => 0, 0)
/-- the first piece by which there are too many, or it is too long; -1 -/
def ufN (cs : TT) : Prop := ∀ j, 0 ≤ j → j < cs.2.2.2 → j ≠ 12 ∧ sI cs.2.1 (j + 1) ≤ 360
def ufO (cs : TT) (u : Int) : Prop := 0 ≤ u ∧ u < cs.2.2.2 ∧ (u = 12 ∨ 360 < sI cs.2.1 (u + 1)) ∧ ∀ j, 0 ≤ j → j < u → j ≠ 12 ∧ sI cs.2.1 (j + 1) ≤ 360
def IsUf (cs : TT) (u : Int) : Prop := (u = -1 ∧ ufN cs) ∨ ufO cs u
theorem IsUf_un {cs : TT} {u u' : Int} (h : IsUf cs u) (h' : IsUf cs u') : u = u' := by
  rcases h with ⟨h1, h2⟩ | ⟨h1, h2, h3, h4⟩ <;> rcases h' with ⟨g1, g2⟩ | ⟨g1, g2, g3, g4⟩
  · omega
  · have := h2 u' g1 g2
    omega
  · have := g2 u h1 h2
    omega
  · rcases Int.lt_trichotomy u u' with z | z | z
    · have := g4 u h1 z
      omega
    · exact z
    · have := h4 u' g1 z
      omega
noncomputable def ufI (cs : TT) : Int := theI (IsUf cs)
theorem ufI_eq {cs : TT} {u : Int} (h : IsUf cs u) : ufI cs = u := theI_eq h (fun x hx => IsUf_un hx h)
/-- cam: what it answers, the cause -/
noncomputable def camF (b : Int → Int) (n lc : Int) : Int × Int := cif ((tpI b n 0 cs0).1 = 0) (-100 - (tpI b n 0 cs0).2.1, (tpI b n 0 cs0).2.2.1) (cif (ufI (tpI b n 0 cs0).2.2.2 < 0) ((tpI b n 0 cs0).2.2.2.2.2.2, lc) (-300 - ufI (tpI b n 0 cs0).2.2.2, if ufI (tpI b n 0 cs0).2.2.2 = 12 then 6 else 7))
/-- it is taken -/
def camOk (b : Int → Int) (n : Int) : Prop := (tpI b n 0 cs0).1 ≠ 0 ∧ ufI (tpI b n 0 cs0).2.2.2 < 0
/-- the same pieces -/
def Ag (t u : TT) : Prop := t.2.2.2 = u.2.2.2 ∧ ∀ i, 0 ≤ i → i < t.2.2.2 → t.1 i = u.1 i ∧ t.2.1 i = u.2.1 i ∧ t.2.2.1 i = u.2.2.1 i
