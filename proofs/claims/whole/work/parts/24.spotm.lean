/-! Spot: against the numbers over LONG to the fifth; bounds -/
def o5 (L : Int) : Int := L * L * L * L * L
def shr (k u L : Int) : Int :=
  if k = 1 then u * L * L * L * L
  else if k = 2 then u * u * L * L * L
  else if k = 3 then (2 * u * L - u * u) * L * L * L
  else if k = 4 then (3 * u * u * L - 2 * u * u * u) * L * L
  else if k = 5 then 10 * u * u * u * L * L - 15 * u * u * u * u * L + 6 * o5 u
  else 0
def shs (k u L : Int) : Int :=
  if k = 1 then L * L * L * L
  else if k = 2 then 2 * u * L * L * L
  else if k = 3 then 2 * (L - u) * L * L * L
  else if k = 4 then 6 * u * (L - u) * L * L
  else if k = 5 then 30 * u * u * (L - u) * (L - u)
  else 0
def shb (k u L : Int) : Int :=
  if k = 2 then 2 * L * L * L
  else if k = 3 then -2 * L * L * L
  else if k = 4 then (6 * L - 12 * u) * L * L
  else if k = 5 then 60 * u * L * L - 180 * u * u * L + 120 * u * u * u
  else 0
/-- the factor between the two -/
def cf (k L : Int) : Int := if k = 1 then L * L * L * L else if k = 2 then L * L * L else if k = 3 then L * L * L else if k = 4 then L * L else if k = 5 then 1 else L * L * L * L * L
theorem kd_cases {P : Int → Prop} {k : Int} (h : 0 ≤ k ∧ k ≤ 5) (h0 : P 0) (h1 : P 1) (h2 : P 2) (h3 : P 3) (h4 : P 4) (h5 : P 5) : P k := by
  rcases (show k = 0 ∨ k = 1 ∨ k = 2 ∨ k = 3 ∨ k = 4 ∨ k = 5 by omega) with e | e | e | e | e | e <;> rw [e] <;> assumption
theorem sp_over (k L r a u : Int) (h : 0 ≤ k ∧ k ≤ 5) : o5 L = cf k L * (sd k L r a u).1 := by
  refine kd_cases (P := fun k => o5 L = cf k L * (sd k L r a u).1) h ?_ ?_ ?_ ?_ ?_ ?_ <;> simp [cf, sd, o5] <;> grind
theorem sp_gain (k L r a u : Int) (h : 0 ≤ k ∧ k ≤ 5) : r * shr k u L = cf k L * (sd k L r a u).2.1 := by
  refine kd_cases (P := fun k => r * shr k u L = cf k L * (sd k L r a u).2.1) h ?_ ?_ ?_ ?_ ?_ ?_ <;> simp [cf, sd, shr, o5] <;> grind
theorem sp_slope (k L r a u : Int) (h : 0 ≤ k ∧ k ≤ 5) : r * shs k u L = cf k L * (sd k L r a u).2.2.1 := by
  refine kd_cases (P := fun k => r * shs k u L = cf k L * (sd k L r a u).2.2.1) h ?_ ?_ ?_ ?_ ?_ ?_ <;> simp [cf, sd, shs] <;> grind
theorem sp_bend (k L r a u : Int) (h : 0 ≤ k ∧ k ≤ 5) : r * shb k u L = cf k L * (sd k L r a u).2.2.2.1 := by
  refine kd_cases (P := fun k => r * shb k u L = cf k L * (sd k L r a u).2.2.2.1) h ?_ ?_ ?_ ?_ ?_ ?_ <;> simp [cf, sd, shb] <;> grind
theorem sd_base (k L r a u : Int) : (sd k L r a u).2.2.2.2 = a := by
  unfold sd
  repeat' split
  all_goals rfl
theorem sp_lift (k L r a u : Int) (h : 0 ≤ k ∧ k ≤ 5) : a * o5 L + r * shr k u L = cf k L * lf (sd k L r a u) := by
  rw [sp_gain k L r a u h, sp_over k L r a u h]
  unfold lf
  rw [sd_base]
  grind
theorem mul_ab {x y A B : Int} (hx : -A ≤ x ∧ x ≤ A) (hy : -B ≤ y ∧ y ≤ B) : -(A * B) ≤ x * y ∧ x * y ≤ A * B := by
  have h1 : x.natAbs ≤ A.natAbs := by omega
  have h2 : y.natAbs ≤ B.natAbs := by omega
  have h3 := Nat.mul_le_mul h1 h2
  rw [← Int.natAbs_mul, ← Int.natAbs_mul] at h3
  have h4 := Int.mul_nonneg (show 0 ≤ A by omega) (show 0 ≤ B by omega)
  omega
theorem pos_L {L : Int} (h : 1 ≤ L) : 1 ≤ L * L ∧ 1 ≤ L * L * L ∧ 1 ≤ L * L * L * L ∧ 1 ≤ L * L * L * L * L := by
  have h2 := Int.mul_pos (show 0 < L by omega) (show 0 < L by omega)
  have h3 := Int.mul_pos h2 (show 0 < L by omega)
  have h4 := Int.mul_pos h3 (show 0 < L by omega)
  have h5 := Int.mul_pos h4 (show 0 < L by omega)
  omega
theorem cf_pos {k L : Int} (h : 1 ≤ L) : 1 ≤ cf k L := by
  have := pos_L h
  unfold cf
  repeat' split
  all_goals omega
theorem dv {c x A : Int} (h : 1 ≤ c) (h1 : -A ≤ c * x ∧ c * x ≤ A) : -A ≤ x ∧ x ≤ A := by
  rcases Int.le_total 0 x with h0 | h0
  · have := Int.mul_le_mul_of_nonneg_right h h0
    omega
  · have := Int.mul_le_mul_of_nonpos_right h h0
    omega
theorem o5_bd {L : Int} (h : 1 ≤ L ∧ L ≤ 360) : 1 ≤ o5 L ∧ o5 L ≤ 6046617600000 := by
  have h1 := pos_L h.1
  have a2 := mul_bd (A := 360) (B := 360) (x := L) (y := L) (by omega) (by omega)
  have a3 := mul_bd (x := L * L) (y := L) a2 (B := 360) (by omega)
  have a4 := mul_bd (x := L * L * L) (y := L) a3 (B := 360) (by omega)
  have a5 := mul_bd (x := L * L * L * L) (y := L) a4 (B := 360) (by omega)
  unfold o5
  omega
theorem id1 (u v : Int) : u * (u + v) * (u + v) * (u + v) * (u + v) = u * ((u + v) * (u + v) * (u + v) * (u + v)) ∧ o5 (u + v) = u * ((u + v) * (u + v) * (u + v) * (u + v)) + v * ((u + v) * (u + v) * (u + v) * (u + v)) := by
  unfold o5
  constructor <;> grind
theorem id2 (u v : Int) : u * u * (u + v) * (u + v) * (u + v) = u * u * ((u + v) * (u + v) * (u + v)) ∧ o5 (u + v) = u * u * ((u + v) * (u + v) * (u + v)) + (v * v + 2 * (u * v)) * ((u + v) * (u + v) * (u + v)) := by
  unfold o5
  constructor <;> grind
theorem id3 (u v : Int) : (2 * u * (u + v) - u * u) * (u + v) * (u + v) * (u + v) = (u * u + 2 * (u * v)) * ((u + v) * (u + v) * (u + v)) ∧ o5 (u + v) = (u * u + 2 * (u * v)) * ((u + v) * (u + v) * (u + v)) + v * v * ((u + v) * (u + v) * (u + v)) := by
  unfold o5
  constructor <;> grind
theorem id4 (u v : Int) : (3 * u * u * (u + v) - 2 * u * u * u) * (u + v) * (u + v) = u * u * (u + 3 * v) * ((u + v) * (u + v)) ∧ o5 (u + v) = u * u * (u + 3 * v) * ((u + v) * (u + v)) + v * v * (v + 3 * u) * ((u + v) * (u + v)) := by
  unfold o5
  constructor <;> grind
theorem id5 (u v : Int) : 10 * u * u * u * (u + v) * (u + v) - 15 * u * u * u * u * (u + v) + 6 * o5 u = u * u * u * (u * u + 5 * (u * v) + 10 * (v * v)) ∧ o5 (u + v) = u * u * u * (u * u + 5 * (u * v) + 10 * (v * v)) + v * v * v * (10 * (u * u) + 5 * (u * v) + v * v) := by
  unfold o5
  constructor <;> grind
theorem id_bd {x o A B : Int} (h : x = A ∧ o = A + B) (ha : 0 ≤ A) (hb : 0 ≤ B) : 0 ≤ x ∧ x ≤ o := by omega
/-- from nought to all -/
theorem shr_bd {k u L : Int} (hk : 0 ≤ k ∧ k ≤ 5) (hL : 1 ≤ L) (hu : 0 ≤ u ∧ u ≤ L) : 0 ≤ shr k u L ∧ shr k u L ≤ o5 L := by
  obtain ⟨v, rfl⟩ : ∃ v, L = u + v := ⟨L - u, by omega⟩
  have hv0 : 0 ≤ v := by omega
  have hL0 : 0 ≤ u + v := by omega
  have L2 := Int.mul_nonneg hL0 hL0
  have L3 := Int.mul_nonneg L2 hL0
  have L4 := Int.mul_nonneg L3 hL0
  have u2 := Int.mul_nonneg hu.1 hu.1
  have u3 := Int.mul_nonneg u2 hu.1
  have v2 := Int.mul_nonneg hv0 hv0
  have v3 := Int.mul_nonneg v2 hv0
  have uv := Int.mul_nonneg hu.1 hv0
  refine kd_cases (P := fun k => 0 ≤ shr k u (u + v) ∧ shr k u (u + v) ≤ o5 (u + v)) hk ?_ ?_ ?_ ?_ ?_ ?_
  · have := pos_L hL
    refine ⟨Int.le_refl _, ?_⟩
    show (0 : Int) ≤ _
    unfold o5
    omega
  · exact id_bd (id1 u v) (Int.mul_nonneg hu.1 L4) (Int.mul_nonneg hv0 L4)
  · exact id_bd (id2 u v) (Int.mul_nonneg u2 L3) (Int.mul_nonneg (by omega) L3)
  · exact id_bd (id3 u v) (Int.mul_nonneg (by omega) L3) (Int.mul_nonneg v2 L3)
  · exact id_bd (id4 u v) (Int.mul_nonneg (Int.mul_nonneg u2 (by omega)) L2) (Int.mul_nonneg (Int.mul_nonneg v2 (by omega)) L2)
  · exact id_bd (id5 u v) (Int.mul_nonneg u3 (by omega)) (Int.mul_nonneg v3 (by omega))
theorem shs_bd {k u L : Int} (hk : 0 ≤ k ∧ k ≤ 5) (hL : 1 ≤ L ∧ L ≤ 360) (hu : 0 ≤ u ∧ u ≤ L) : 0 ≤ shs k u L ∧ shs k u L ≤ 503884800000 := by
  have hv : 0 ≤ L - u ∧ L - u ≤ 360 := by omega
  have hU : 0 ≤ u ∧ u ≤ 360 := by omega
  have hL' : 0 ≤ L ∧ L ≤ 360 := by omega
  have m := @mul_bd
  have t2 : (0 : Int) ≤ 2 ∧ (2 : Int) ≤ 2 := by omega
  have t6 : (0 : Int) ≤ 6 ∧ (6 : Int) ≤ 6 := by omega
  have t30 : (0 : Int) ≤ 30 ∧ (30 : Int) ≤ 30 := by omega
  refine kd_cases (P := fun k => 0 ≤ shs k u L ∧ shs k u L ≤ 503884800000) hk ?_ ?_ ?_ ?_ ?_ ?_
  · show 0 ≤ (0 : Int) ∧ (0 : Int) ≤ _
    omega
  · show 0 ≤ L * L * L * L ∧ L * L * L * L ≤ _
    have a := m (m (m hL' hL') hL') hL'
    omega
  · show 0 ≤ 2 * u * L * L * L ∧ 2 * u * L * L * L ≤ _
    have a := m (m (m (m t2 hU) hL') hL') hL'
    omega
  · show 0 ≤ 2 * (L - u) * L * L * L ∧ 2 * (L - u) * L * L * L ≤ _
    have a := m (m (m (m t2 hv) hL') hL') hL'
    omega
  · show 0 ≤ 6 * u * (L - u) * L * L ∧ 6 * u * (L - u) * L * L ≤ _
    have a := m (m (m (m t6 hU) hv) hL') hL'
    omega
  · show 0 ≤ 30 * u * u * (L - u) * (L - u) ∧ 30 * u * u * (L - u) * (L - u) ≤ _
    have a := m (m (m (m t30 hU) hU) hv) hv
    omega
theorem ie1 (L : Int) : 2 * L * L * L = 2 * (L * L * L) := by grind
theorem ie2 (L : Int) : -2 * L * L * L = -2 * (L * L * L) := by grind
theorem ie3 (L u : Int) : (6 * L - 12 * u) * L * L = 6 * ((L - 2 * u) * (L * L)) := by grind
theorem ie4 (L u : Int) : 60 * u * L * L - 180 * u * u * L + 120 * u * u * u = 15 * (4 * (u * (L - u)) * (L - 2 * u)) := by grind
theorem ie5 (L u : Int) : 4 * (u * (L - u)) + (L - 2 * u) * (L - 2 * u) = L * L := by grind
theorem shb_bd {k u L : Int} (hk : 0 ≤ k ∧ k ≤ 5) (hL : 1 ≤ L ∧ L ≤ 360) (hu : 0 ≤ u ∧ u ≤ L) : -699840000 ≤ shb k u L ∧ shb k u L ≤ 699840000 := by
  have hL' : -360 ≤ L ∧ L ≤ 360 := by omega
  have m := @mul_ab
  have LL := m hL' hL'
  have LLL := m LL hL'
  have hw : -360 ≤ L - 2 * u ∧ L - 2 * u ≤ 360 := by omega
  refine kd_cases (P := fun k => -699840000 ≤ shb k u L ∧ shb k u L ≤ 699840000) hk ?_ ?_ ?_ ?_ ?_ ?_
  · show _ ≤ (0 : Int) ∧ (0 : Int) ≤ _
    omega
  · show _ ≤ (0 : Int) ∧ (0 : Int) ≤ _
    omega
  · show _ ≤ 2 * L * L * L ∧ 2 * L * L * L ≤ _
    have e := ie1 L
    omega
  · show _ ≤ -2 * L * L * L ∧ -2 * L * L * L ≤ _
    have e := ie2 L
    omega
  · show _ ≤ (6 * L - 12 * u) * L * L ∧ (6 * L - 12 * u) * L * L ≤ _
    have e := ie3 L u
    have a := m hw LL
    omega
  · show _ ≤ 60 * u * L * L - 180 * u * u * L + 120 * u * u * u ∧ 60 * u * L * L - 180 * u * u * L + 120 * u * u * u ≤ _
    have e := ie4 L u
    have b1 := Int.mul_nonneg hu.1 (show 0 ≤ L - u by omega)
    have b2 : 0 ≤ (L - 2 * u) * (L - 2 * u) := by
      rcases Int.le_total 0 (L - 2 * u) with h | h
      · exact Int.mul_nonneg h h
      · exact Int.mul_nonneg_of_nonpos_of_nonpos h h
    have b3 := ie5 L u
    have a := m (x := 4 * (u * (L - u))) (A := 129600) (by omega) hw
    omega
/-- what stays in a long -/
def SBd (s : SS) : Prop := (1 ≤ s.1 ∧ s.1 ≤ 6046617600000) ∧ (-598615142400000 ≤ s.2.1 ∧ s.2.1 ≤ 598615142400000) ∧ (-7781996851200000 ≤ lf s ∧ lf s ≤ 7781996851200000) ∧ (-49884595200000 ≤ s.2.2.1 ∧ s.2.2.1 ≤ 49884595200000) ∧ (-69284160000 ≤ s.2.2.2.1 ∧ s.2.2.2.1 ≤ 69284160000) ∧ (-1188 ≤ s.2.2.2.2 ∧ s.2.2.2.2 ≤ 1188)
theorem sd_bd {k L r a u : Int} (hk : 0 ≤ k ∧ k ≤ 5) (hL : 1 ≤ L ∧ L ≤ 360) (hr : -99 ≤ r ∧ r ≤ 99) (ha : -1188 ≤ a ∧ a ≤ 1188) (hu : 0 ≤ u ∧ u ≤ L) : SBd (sd k L r a u) := by
  have hc := cf_pos (k := k) hL.1
  have h5 := o5_bd hL
  have e1 := sp_over k L r a u hk
  have e2 := sp_gain k L r a u hk
  have e3 := sp_lift k L r a u hk
  have e4 := sp_slope k L r a u hk
  have e5 := sp_bend k L r a u hk
  have b2 := shr_bd hk hL.1 hu
  have b3 := shs_bd hk hL hu
  have b4 := shb_bd hk hL hu
  have r2 := mul_ab hr (show -6046617600000 ≤ shr k u L ∧ shr k u L ≤ 6046617600000 by omega)
  have r3 := mul_ab hr (show -503884800000 ≤ shs k u L ∧ shs k u L ≤ 503884800000 by omega)
  have r4 := mul_ab hr b4
  have r5 := mul_ab ha (show -6046617600000 ≤ o5 L ∧ o5 L ≤ 6046617600000 by omega)
  have p1 : 1 ≤ (sd k L r a u).1 := by
    rcases Int.lt_or_le 0 (sd k L r a u).1 with h | h
    · omega
    · have := Int.mul_nonpos_of_nonneg_of_nonpos (show 0 ≤ cf k L by omega) h
      omega
  have d1 := dv (x := (sd k L r a u).1) (A := 6046617600000) hc (by omega)
  have d2 := dv (x := (sd k L r a u).2.1) (A := 598615142400000) hc (by omega)
  have d3 := dv (x := lf (sd k L r a u)) (A := 7781996851200000) hc (by omega)
  have d4 := dv (x := (sd k L r a u).2.2.1) (A := 49884595200000) hc (by omega)
  have d5 := dv (x := (sd k L r a u).2.2.2.1) (A := 69284160000) hc (by omega)
  refine ⟨⟨p1, d1.2⟩, d2, d3, d4, d5, ?_⟩
  rw [sd_base]
  exact ha
