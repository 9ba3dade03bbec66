/-! CamPieces: the whole object; what stands at an angle, seen from a side -/
abbrev RJ : Type := TT × Int × Int × Int × Int × Int
abbrev PS : Type := TT × (Int → Int) × TT × (Int → Int) × Int × Int × (Int → Int) × Int × (Int → Int) × (Int → Int)
abbrev PS.t (p : PS) : TT := p.1
abbrev PS.s (p : PS) : Int → Int := p.2.1
abbrev PS.pt (p : PS) : TT := p.2.2.1
abbrev PS.ps (p : PS) : Int → Int := p.2.2.2.1
abbrev PS.ip (p : PS) : Int := p.2.2.2.2.1
abbrev PS.lc (p : PS) : Int := p.2.2.2.2.2.1
abbrev PS.tb (p : PS) : Int → Int := p.2.2.2.2.2.2.1
abbrev PS.ts (p : PS) : Int := p.2.2.2.2.2.2.2.1
abbrev PS.rp (p : PS) : Int → Int := p.2.2.2.2.2.2.2.2.1
abbrev PS.rz (p : PS) : Int → Int := p.2.2.2.2.2.2.2.2.2
def leF (i : Int) : Int := if i = 0 then 1 else if i = 1 then 1 else if i = 5 then 1 else 0
def moF (i : Int) : Int := if i = 0 then 999 else if i = 1 then 20 else if i = 2 then 99 else if i = 3 then 9999 else if i = 4 then 30 else 1000
def fiF (i : Int) : Int := if i = 0 then 100 else if i = 1 then 1 else if i = 2 then 1 else if i = 3 then 10 else if i = 4 then 1 else 100
def wdL : List (List Int) := [[100, 119, 101, 108, 108], [108, 105, 110, 101], [115, 116, 97, 114, 116], [115, 116, 111, 112], [99, 117, 98, 105, 99], [113, 117, 105, 110, 116, 105, 99]]
def stB (k : Nat) (j : Int) : Int := (wdL.getD k []).getD j.toNat 0
def eC (p : PS) (rj : RJ) (s : SS) (w : WW) (g : RR) (q q2 : Int × Int) (sm co : Int → Int) : List zE := [
  zO 7 [.ref 1, .ref 5, .ref 6, .ref 10, .int (iI p.ip), .ref 11, .int (iI p.lc), .ref 17, .ref 20, .ref 21, .ref 22, .ref 23, .ref 24, .ref 25, .ref 26],
  zO 5 [.ref 2, .ref 3, .ref 4, .int (iI p.t.2.2.2)], aI 12 p.t.1, aI 12 p.t.2.1, aI 12 p.t.2.2.1,
  aI 6 p.s,
  zO 5 [.ref 7, .ref 8, .ref 9, .int (iI p.pt.2.2.2)], aI 12 p.pt.1, aI 12 p.pt.2.1, aI 12 p.pt.2.2.1,
  aI 6 p.ps,
  zO 2 [.ref 12, .int (iI p.ts), .ref 13, .int (iI rj.2.1), .int (iI rj.2.2.1), .int (iI rj.2.2.2.1), .int (iI rj.2.2.2.2.1), .int (iI rj.2.2.2.2.2)], aI 120 p.tb,
  zO 5 [.ref 14, .ref 15, .ref 16, .int (iI rj.1.2.2.2)], aI 12 rj.1.1, aI 12 rj.1.2.1, aI 12 rj.1.2.2.1,
  zO 3 [.ref 18, .ref 19], aL 120 p.rp, aI 4 p.rz,
  oS s, oK w, zO 0 [.long (lI g.1), .long (lI g.2.1), .int (iI g.2.2)], zO 1 [.long (lI q.1), .long (lI q.2)], zO 1 [.long (lI q2.1), .long (lI q2.2)],
  aL 361 sm, aI 12 co,
  zT [("CamPieces", "LEAST_SETTINGS", "[I", .ref 28), ("CamPieces", "MOST_SETTINGS", "[I", .ref 29), ("CamPieces", "FIRST_SETTINGS", "[I", .ref 30), ("java/lang/String", "COMPACT_STRINGS", "Z", .int (iI 1))],
  aR 6 leF, aR 6 moF, aR 6 fiF,
  zS 0 37, zS 1 38, zS 2 39, zS 3 40, zS 4 41, zS 5 42,
  aB 5 (stB 0), aB 4 (stB 1), aB 5 (stB 2), aB 4 (stB 3), aB 5 (stB 4), aB 7 (stB 5), zU]

def isC : List Nat := [0, 1, 2, 3, 4, 5, 6, 7, 8, 9, 10, 11, 12, 13, 14, 15, 16, 17, 18, 19, 20, 21, 22, 23, 24, 25, 26, 27, 28, 29, 30, 31, 32, 33, 34, 35, 36, 37, 38, 39, 40, 41, 42, 43]
theorem emC (p : PS) (rj : RJ) (s : SS) (w : WW) (g : RR) (q q2 : Int × Int) (sm co : Int → Int) : zEmb isC (eC p rj s w g q q2 sm co) (eC p rj s w g q q2 sm co) := ⟨by decide +kernel, (zEL.c (Or.inl rfl) (zEL.c (Or.inl rfl) (zEL.c (Or.inl rfl) (zEL.c (Or.inl rfl) (zEL.c (Or.inl rfl) (zEL.c (Or.inl rfl) (zEL.c (Or.inl rfl) (zEL.c (Or.inl rfl) (zEL.c (Or.inl rfl) (zEL.c (Or.inl rfl) (zEL.c (Or.inl rfl) (zEL.c (Or.inl rfl) (zEL.c (Or.inl rfl) (zEL.c (Or.inl rfl) (zEL.c (Or.inl rfl) (zEL.c (Or.inl rfl) (zEL.c (Or.inl rfl) (zEL.c (Or.inl rfl) (zEL.c (Or.inl rfl) (zEL.c (Or.inl rfl) (zEL.c (Or.inl rfl) (zEL.c (Or.inl rfl) (zEL.c (Or.inl rfl) (zEL.c (Or.inl rfl) (zEL.c (Or.inl rfl) (zEL.c (Or.inl rfl) (zEL.c (Or.inl rfl) (zEL.c (Or.inl rfl) (zEL.c (Or.inl rfl) (zEL.c (Or.inl rfl) (zEL.c (Or.inl rfl) (zEL.c (Or.inl rfl) (zEL.c (Or.inl rfl) (zEL.c (Or.inl rfl) (zEL.c (Or.inl rfl) (zEL.c (Or.inl rfl) (zEL.c (Or.inl rfl) (zEL.c (Or.inl rfl) (zEL.c (Or.inl rfl) (zEL.c (Or.inl rfl) (zEL.c (Or.inl rfl) (zEL.c (Or.inl rfl) (zEL.c (Or.inl rfl) (zEL.c (Or.inl rfl) zEL.n))))))))))))))))))))))))))))))))))))))))))))⟩
/-- a callee that has the caller's whole world gives it back whole -/
def zSame (f : Nat → Nat) : List zE → List zE → Prop
  | e :: out, m :: mem => (renE f e = e ∧ (zrw e = false → m = e)) ∧ zSame f out mem
  | [], [] => True
  | _, _ => False
theorem zSame_at {f : Nat → Nat} : ∀ {out mem : List zE}, zSame f out mem → out.length = mem.length ∧ ∀ (k : Nat) (e : zE), out[k]? = some e → renE f e = e ∧ (zrw e = false → mem[k]? = some e) := by
  intro out
  induction out with
  | nil =>
    intro mem h
    cases mem with
    | nil => exact ⟨rfl, fun k e h => by simp at h⟩
    | cons m mem => exact h.elim
  | cons e out ih =>
    intro mem h
    cases mem with
    | nil => exact h.elim
    | cons m mem =>
      obtain ⟨h1, h2⟩ := ih h.2
      refine ⟨by simp [h1], fun k x hk => ?_⟩
      cases k with
      | zero =>
        simp at hk
        subst hk
        exact ⟨h.1.1, fun z => by simp [h.1.2 z]⟩
      | succ k =>
        simp at hk
        simpa using h2 k x hk
theorem mg_all {is : List Nat} {out mem : List zE} (hi : ∀ j, j < is.length → is[j]? = some j) (hl : is.length = out.length) (hnd : is.Nodup) (h : zSame (zr is) out mem) : zMg (zr is) is out mem = out := by
  obtain ⟨h1, h2⟩ := zSame_at h
  refine List.ext_getElem? (fun k => ?_)
  have hlen := zMg_len (zr is) is out mem
  by_cases hk : k < out.length
  · have e1 : (zMg (zr is) is out mem)[k]? = some ((zMg (zr is) is out mem)[k]'(by omega)) := List.getElem?_eq_getElem _
    have e2 : out[k]? = some (out[k]'hk) := List.getElem?_eq_getElem _
    rw [e1, e2]
    congr 1
    rcases zMg_at hnd e1 with ⟨j, e, g1, g2, g3, g4⟩ | ⟨g1, g2⟩
    · have hj := (List.getElem?_eq_some_iff.mp g1).1
      have hjk : j = k := Option.some.inj ((hi j hj).symm.trans g1)
      rw [hjk] at g2
      rw [g4, (h2 k e g2).1]
      exact Option.some.inj (g2.symm.trans e2)
    · have := g2 k _ (hi k (by omega)) e2
      exact Option.some.inj (g1.symm.trans ((h2 k _ e2).2 this))
  · rw [List.getElem?_eq_none (by omega), List.getElem?_eq_none (by omega)]
theorem isC_at : ∀ j, j < isC.length → isC[j]? = some j := by decide +kernel
theorem isC_nd : isC.Nodup := by decide +kernel
theorem mgC (p p' : PS) (rj rj' : RJ) (s s' : SS) (w w' : WW) (g g' : RR) (q q' q2 q2' : Int × Int) (sm sm' co co' : Int → Int) : zMg (zr isC) isC (eC p' rj' s' w' g' q' q2' sm' co') (eC p rj s w g q q2 sm co) = eC p' rj' s' w' g' q' q2' sm' co' :=
  mg_all isC_at rfl isC_nd ⟨⟨rfl, fun z => by cases z⟩, ⟨⟨rfl, fun z => by cases z⟩, ⟨⟨rfl, fun z => by cases z⟩, ⟨⟨rfl, fun z => by cases z⟩, ⟨⟨rfl, fun z => by cases z⟩, ⟨⟨rfl, fun z => by cases z⟩, ⟨⟨rfl, fun z => by cases z⟩, ⟨⟨rfl, fun z => by cases z⟩, ⟨⟨rfl, fun z => by cases z⟩, ⟨⟨rfl, fun z => by cases z⟩, ⟨⟨rfl, fun z => by cases z⟩, ⟨⟨rfl, fun z => by cases z⟩, ⟨⟨rfl, fun z => by cases z⟩, ⟨⟨rfl, fun z => by cases z⟩, ⟨⟨rfl, fun z => by cases z⟩, ⟨⟨rfl, fun z => by cases z⟩, ⟨⟨rfl, fun z => by cases z⟩, ⟨⟨rfl, fun z => by cases z⟩, ⟨⟨rfl, fun z => by cases z⟩, ⟨⟨rfl, fun z => by cases z⟩, ⟨⟨rfl, fun z => by cases z⟩, ⟨⟨rfl, fun z => by cases z⟩, ⟨⟨rfl, fun z => by cases z⟩, ⟨⟨rfl, fun z => by cases z⟩, ⟨⟨rfl, fun z => by cases z⟩, ⟨⟨rfl, fun z => by cases z⟩, ⟨⟨rfl, fun z => by cases z⟩, ⟨⟨rfl, fun _ => rfl⟩, ⟨⟨rfl, fun _ => rfl⟩, ⟨⟨rfl, fun _ => rfl⟩, ⟨⟨rfl, fun _ => rfl⟩, ⟨⟨rfl, fun _ => rfl⟩, ⟨⟨rfl, fun _ => rfl⟩, ⟨⟨rfl, fun _ => rfl⟩, ⟨⟨rfl, fun _ => rfl⟩, ⟨⟨rfl, fun _ => rfl⟩, ⟨⟨rfl, fun _ => rfl⟩, ⟨⟨rfl, fun _ => rfl⟩, ⟨⟨rfl, fun _ => rfl⟩, ⟨⟨rfl, fun _ => rfl⟩, ⟨⟨rfl, fun _ => rfl⟩, ⟨⟨rfl, fun _ => rfl⟩, ⟨⟨rfl, fun _ => rfl⟩, ⟨⟨rfl, fun _ => rfl⟩, trivial⟩⟩⟩⟩⟩⟩⟩⟩⟩⟩⟩⟩⟩⟩⟩⟩⟩⟩⟩⟩⟩⟩⟩⟩⟩⟩⟩⟩⟩⟩⟩⟩⟩⟩⟩⟩⟩⟩⟩⟩⟩⟩⟩⟩
def SB (s : Int → Int) : Prop := (1 ≤ s 0 ∧ s 0 ≤ 999) ∧ (1 ≤ s 1 ∧ s 1 ≤ 20) ∧ (0 ≤ s 2 ∧ s 2 ≤ 99) ∧ (0 ≤ s 3 ∧ s 3 ≤ 9999) ∧ (0 ≤ s 4 ∧ s 4 ≤ 30) ∧ (1 ≤ s 5 ∧ s 5 ≤ 1000)
theorem SB_i {s : Int → Int} (h : SB s) {i : Int} (hi : 0 ≤ i ∧ i < 6) : 0 ≤ s i ∧ s i ≤ 9999 := by
  unfold SB at h
  rcases (show i = 0 ∨ i = 1 ∨ i = 2 ∨ i = 3 ∨ i = 4 ∨ i = 5 by omega) with e | e | e | e | e | e <;> subst e <;> omega
def PV (p : PS) : Prop := TV p.t ∧ SB p.s ∧ TV p.pt ∧ (p.ip = 0 ∨ (p.ip = 1 ∧ SB p.ps)) ∧ (-5 ≤ p.lc ∧ p.lc ≤ 7) ∧ (∀ i, 0 ≤ p.tb i ∧ p.tb i ≤ 127) ∧ (0 ≤ p.ts ∧ p.ts ≤ 120) ∧ (∀ i, inL (p.rp i)) ∧ ZB p.rz
/-- what stands at an angle as seen from a side -/
def At (t : TT) (a sd k u : Int) : Prop :=
  (0 ≤ k ∧ k < t.2.2.2 ∧ a = bg t k + u ∧ ((sd = 0 ∧ 0 < u ∧ u ≤ t.2.1 k) ∨ (sd = 1 ∧ 0 ≤ u ∧ u < t.2.1 k)))
  ∨ (clo t ∧ 0 < t.2.2.2 ∧ ((sd = 0 ∧ a = 0 ∧ k = t.2.2.2 - 1 ∧ u = t.2.1 (t.2.2.2 - 1)) ∨ (sd = 1 ∧ a = tot t ∧ k = 0 ∧ u = 0)))
theorem At_in {t : TT} (h : TV t) {a sd k u : Int} (hA : At t a sd k u) : (0 ≤ k ∧ k < t.2.2.2 ∧ k < 12) ∧ (0 ≤ u ∧ u ≤ t.2.1 k) ∧ (0 ≤ a ∧ a ≤ tot t) ∧ (sd = 0 ∨ sd = 1) ∧ (a = 0 → sd = 0 → clo t) ∧ (a = tot t → sd = 1 → clo t) := by
  have h1 := h.1.1
  rcases hA with ⟨a1, a2, a3, a4⟩ | ⟨a1, a2, a3⟩
  · have b0 := bg_mono h.1 (Int.le_refl 0) a1
    have b1 := bg_mono h.1 (show 0 ≤ k + 1 by omega) (show k + 1 ≤ t.2.2.2 by omega)
    rw [bg_s t a1] at b1
    rw [bg_0] at b0
    have e : tot t = bg t t.2.2.2 := rfl
    refine ⟨⟨a1, a2, by omega⟩, by omega, by omega, by omega, fun x y => by omega, fun x y => by omega⟩
  · have b0 := bg_mono h.1 (Int.le_refl 0) h1.1
    rw [bg_0] at b0
    have e : tot t = bg t t.2.2.2 := rfl
    have l0 := h.1.2.2.1 0
    have l1 := h.1.2.2.1 (t.2.2.2 - 1)
    rcases a3 with ⟨c1, c2, c3, c4⟩ | ⟨c1, c2, c3, c4⟩
    · subst c3
      exact ⟨by omega, by omega, by omega, by omega, fun _ _ => a1, fun _ _ => a1⟩
    · subst c3
      exact ⟨by omega, by omega, by omega, by omega, fun _ _ => a1, fun _ _ => a1⟩
theorem At_un {t : TT} (h : TV t) {a sd k u k' u' : Int} (hA : At t a sd k u) (hB : At t a sd k' u') : k = k' ∧ u = u' := by
  have lt : ∀ {k k' u u' : Int}, 0 ≤ k → k < k' → k' < t.2.2.2 → a = bg t k + u → a = bg t k' + u' → ((sd = 0 ∧ 0 < u ∧ u ≤ t.2.1 k) ∨ (sd = 1 ∧ 0 ≤ u ∧ u < t.2.1 k)) → ((sd = 0 ∧ 0 < u' ∧ u' ≤ t.2.1 k') ∨ (sd = 1 ∧ 0 ≤ u' ∧ u' < t.2.1 k')) → False := by
    intro k k' u u' h1 h2 h3 h4 h5 h6 h7
    have b1 := bg_mono h.1 (show 0 ≤ k + 1 by omega) (show k + 1 ≤ k' by omega)
    rw [bg_s t h1] at b1
    omega
  have mx : ∀ {k u k' u' : Int}, 0 ≤ k → k < t.2.2.2 → a = bg t k + u → ((sd = 0 ∧ 0 < u ∧ u ≤ t.2.1 k) ∨ (sd = 1 ∧ 0 ≤ u ∧ u < t.2.1 k)) → ((sd = 0 ∧ a = 0 ∧ k' = t.2.2.2 - 1 ∧ u' = t.2.1 (t.2.2.2 - 1)) ∨ (sd = 1 ∧ a = tot t ∧ k' = 0 ∧ u' = 0)) → False := by
    intro k u k' u' h1 h2 h3 h4 h5
    have b0 := bg_mono h.1 (Int.le_refl 0) h1
    have b1 := bg_mono h.1 (show 0 ≤ k + 1 by omega) (show k + 1 ≤ t.2.2.2 by omega)
    rw [bg_s t h1] at b1
    rw [bg_0] at b0
    have e : tot t = bg t t.2.2.2 := rfl
    omega
  rcases hA with ⟨a1, a2, a3, a4⟩ | ⟨a1, a2, a3⟩ <;> rcases hB with ⟨b1, b2, b3, b4⟩ | ⟨b1, b2, b3⟩
  · rcases Int.lt_trichotomy k k' with c | c | c
    · exact (lt a1 c b2 a3 b3 a4 b4).elim
    · subst c; exact ⟨rfl, by omega⟩
    · exact (lt b1 c a2 b3 a3 b4 a4).elim
  · exact (mx a1 a2 a3 a4 b3).elim
  · exact (mx b1 b2 b3 b4 a3).elim
  · omega
section C1
variable (l : Launch) (p : PS) (rj : RJ) (s : SS) (w : WW) (g : RR) (q q2 : Int × Int) (sm co : Int → Int)
theorem c_C_setting (h : PV p) (i : Int) (hi : 0 ≤ i ∧ i < 6) : Con l M_C_setting R_C_setting 0 0 false [.ref 0, .int (iI i)] (eC p rj s w g q q2 sm co) (zAl (p.s i) (fun m => m = eC p rj s w g q q2 sm co)) := by
  have hs := SB_i h.2.1 hi
  refine Con.of_Z (by decide) D_C_setting (Nat.le_of_ble_eq_true rfl) ?_
  refine Z_aload_n 0 rfl rfl rfl ?_
  refine Z_get 1 rfl f_C_18 rfl rfl ?_
  refine Z_iload_n 2 rfl rfl rfl ?_
  refine Z_callSip (M' := M_C_pick) 3 [5] rfl l_C_148 C_C_pick (pick_in l 6 (by omega) p.s i (by omega)) ⟨by decide, (zEL.c (Or.inr ⟨_, _, rfl, rfl, by decide⟩) zEL.n)⟩ rfl rfl rfl (Nat.le_of_ble_eq_true rfl) ⟨rfl, rfl, Nat.le_of_ble_eq_true rfl, Nat.le_of_ble_eq_true rfl⟩ ⟨Nat.zero_le _, Nat.zero_le _⟩ ?_
  refine Z_i2l 4 rfl (by omega) ?_
  refine Z_lret 5 rfl rfl ⟨Nat.le_refl _, Nat.le_refl _⟩ ?_
  exact ⟨rfl, rfl⟩
theorem c_C_standIn (h : PV p) (k u : Int) (hk : 0 ≤ k ∧ k < p.t.2.2.2) (hu : inI u) : Con l M_C_standIn R_C_standIn 0 0 false [.ref 0, .int (iI k), .int (iI u)] (eC p rj s w g q q2 sm co) (zAb True (fun m => m = eC p rj (pl p.t k u) w g q q2 sm co)) := by
  have h1 := h.1.1.1
  have b1 := h.1.1.2.1 k
  have b2 := h.1.1.2.2.1 k
  have b3 := h.1.1.2.2.2 k
  have b4 : inI (ah p.t k) := by have := ah_bd h.1.1 (show k ≤ 12 by omega); omega
  refine Con.of_Z (by decide) D_C_standIn (Nat.le_of_ble_eq_true rfl) ?_
  refine Z_aload_n 0 rfl rfl rfl ?_
  refine Z_get 1 rfl f_C_53 rfl rfl ?_
  refine Z_aload_n 2 rfl rfl rfl ?_
  refine Z_get 3 rfl f_C_14 rfl rfl ?_
  refine Z_iload_n 4 rfl rfl rfl ?_
  refine Z_callVip (M' := M_T_kindOf) 5 [1, 2, 3, 4] rfl l_C_121 C_T_kindOf (c_T_kindOf l p.t k (by omega)) ⟨by decide, (zEL.c (Or.inl rfl) (zEL.c (Or.inl rfl) (zEL.c (Or.inl rfl) (zEL.c (Or.inl rfl) zEL.n))))⟩ (Or.inl ⟨_, _, _, _, rfl, rfl⟩) rfl rfl rfl (Nat.le_of_ble_eq_true rfl) ⟨rfl, rfl, Nat.le_of_ble_eq_true rfl, Nat.le_of_ble_eq_true rfl⟩ ⟨Nat.zero_le _, Nat.zero_le _⟩ ?_
  refine Z_aload_n 6 rfl rfl rfl ?_
  refine Z_get 7 rfl f_C_14 rfl rfl ?_
  refine Z_iload_n 8 rfl rfl rfl ?_
  refine Z_callVip (M' := M_T_longOf) 9 [1, 2, 3, 4] rfl l_C_125 C_T_longOf (c_T_longOf l p.t k (by omega)) ⟨by decide, (zEL.c (Or.inl rfl) (zEL.c (Or.inl rfl) (zEL.c (Or.inl rfl) (zEL.c (Or.inl rfl) zEL.n))))⟩ (Or.inl ⟨_, _, _, _, rfl, rfl⟩) rfl rfl rfl (Nat.le_of_ble_eq_true rfl) ⟨rfl, rfl, Nat.le_of_ble_eq_true rfl, Nat.le_of_ble_eq_true rfl⟩ ⟨Nat.zero_le _, Nat.zero_le _⟩ ?_
  refine Z_i2l 10 rfl (by omega) ?_
  refine Z_aload_n 11 rfl rfl rfl ?_
  refine Z_get 12 rfl f_C_14 rfl rfl ?_
  refine Z_iload_n 13 rfl rfl rfl ?_
  refine Z_callVip (M' := M_T_riseOf) 14 [1, 2, 3, 4] rfl l_C_128 C_T_riseOf (c_T_riseOf l p.t k (by omega)) ⟨by decide, (zEL.c (Or.inl rfl) (zEL.c (Or.inl rfl) (zEL.c (Or.inl rfl) (zEL.c (Or.inl rfl) zEL.n))))⟩ (Or.inl ⟨_, _, _, _, rfl, rfl⟩) rfl rfl rfl (Nat.le_of_ble_eq_true rfl) ⟨rfl, rfl, Nat.le_of_ble_eq_true rfl, Nat.le_of_ble_eq_true rfl⟩ ⟨Nat.zero_le _, Nat.zero_le _⟩ ?_
  refine Z_i2l 15 rfl (by omega) ?_
  refine Z_aload_n 16 rfl rfl rfl ?_
  refine Z_get 17 rfl f_C_14 rfl rfl ?_
  refine Z_iload_n 18 rfl rfl rfl ?_
  refine Z_callVip (M' := M_T_liftOf) 19 [1, 2, 3, 4] rfl l_C_142 C_T_liftOf (c_T_liftOf l p.t h.1.1 k k (by omega) (by omega)) ⟨by decide, (zEL.c (Or.inl rfl) (zEL.c (Or.inl rfl) (zEL.c (Or.inl rfl) (zEL.c (Or.inl rfl) zEL.n))))⟩ (Or.inl ⟨_, _, _, _, rfl, rfl⟩) rfl rfl rfl (Nat.le_of_ble_eq_true rfl) ⟨rfl, rfl, Nat.le_of_ble_eq_true rfl, Nat.le_of_ble_eq_true rfl⟩ ⟨Nat.zero_le _, Nat.zero_le _⟩ ?_
  refine Z_i2l 20 rfl b4 ?_
  refine Z_iload_n 21 rfl rfl rfl ?_
  refine Z_i2l 22 rfl (by omega) ?_
  refine Z_callVv (M' := M_S_stand) 23 [20] rfl l_C_365 C_S_stand (c_S_stand l s (p.t.1 k) (p.t.2.1 k) (p.t.2.2.1 k) (ah p.t k) u (by omega)) ⟨by decide, (zEL.c (Or.inl rfl) zEL.n)⟩ (Or.inl ⟨_, _, _, _, rfl, rfl⟩) rfl rfl rfl (Nat.le_of_ble_eq_true rfl) ⟨rfl, rfl, Nat.le_of_ble_eq_true rfl, Nat.le_of_ble_eq_true rfl⟩ ⟨Nat.zero_le _, Nat.zero_le _⟩ (fun out hq => ?_)
  obtain rfl := hq
  refine Z_mem (show _ = eC p rj (pl p.t k u) w g q q2 sm co from rfl) ?_
  refine Z_iconst 24 rfl ?_
  refine Z_zret 25 rfl rfl rfl ⟨Nat.le_refl _, Nat.le_refl _⟩ ?_
  exact ⟨bT trivial, rfl⟩
def PAt (a sd : Int) : List zE → Prop := fun m => ∃ s', m = eC p rj s' w g q q2 sm co ∧ ∀ k u, At p.t a sd k u → s' = pl p.t k u
theorem lp_C_standAt (h : PV p) (a sd : Int) (hsd : sd = 0 ∨ sd = 1) (ha : 0 ≤ a ∧ a ≤ tot p.t) (h0 : a = 0 → sd = 1) (h9 : a = tot p.t → sd = 0) : ∀ (d : Nat) (k : Int), 0 ≤ k → k ≤ p.t.2.2.2 → p.t.2.2.2 - k < d → (sd = 0 → bg p.t k < a) → (sd = 1 → bg p.t k ≤ a) → Z (l, M_C_standAt, R_C_standAt, (0, 0), false, zAb (∃ k u, At p.t a sd k u) (PAt p rj w g q q2 sm co a sd)) 0 0 (eC p rj s w g q q2 sm co) 128 [(0, .ref 0), (1, .int (iI a)), (2, .int (iI sd)), (3, .int (iI p.t.2.2.2)), (4, .int (iI (tot p.t))), (5, .int (iI (bg p.t k))), (6, .int (iI k))] [] := by
  have h1 := h.1.1.1
  have ht := tot_bd h.1.1
  intro d
  induction d with
  | zero => intro k h2 h3 h4; omega
  | succ d ih =>
    intro k h2 h3 h4 h5 h6
    have e := bg_s p.t h2
    have b := bg_bd h.1.1 (show k ≤ 12 by omega)
    have b2 := h.1.1.2.2.1 k
    refine Z_iload 69 rfl rfl ?_
    refine Z_iload_n 70 rfl rfl rfl ?_
    refine Z_icmp_ge 71 rfl (tgt := 221) rfl (by omega) (by omega) (fun c131 => ?_) (fun c131 => ?_)
    · exfalso; have e1 : k = p.t.2.2.2 := by omega
      rw [e1] at h5 h6
      have e2 : tot p.t = bg p.t p.t.2.2.2 := rfl
      omega
    refine Z_iload_n 72 rfl rfl rfl ?_
    refine Z_iload 73 rfl rfl ?_
    refine Z_isub 74 rfl ?_
    refine Z_istore 75 rfl (Nat.le_of_ble_eq_true rfl) (lv' := [(7, .int _), (0, .ref _), (1, .int _), (2, .int _), (3, .int _), (4, .int _), (5, .int _), (6, .int _)]) rfl ?_
    refine Z_aload_n 76 rfl rfl rfl ?_
    refine Z_get 77 rfl f_C_14 rfl rfl ?_
    refine Z_iload 78 rfl rfl ?_
    refine Z_callVip (M' := M_T_longOf) 79 [1, 2, 3, 4] rfl l_C_125 C_T_longOf (c_T_longOf l p.t k (by omega)) ⟨by decide, (zEL.c (Or.inl rfl) (zEL.c (Or.inl rfl) (zEL.c (Or.inl rfl) (zEL.c (Or.inl rfl) zEL.n))))⟩ (Or.inl ⟨_, _, _, _, rfl, rfl⟩) rfl rfl rfl (Nat.le_of_ble_eq_true rfl) ⟨rfl, rfl, Nat.le_of_ble_eq_true rfl, Nat.le_of_ble_eq_true rfl⟩ ⟨Nat.zero_le _, Nat.zero_le _⟩ ?_
    refine Z_istore 80 rfl (Nat.le_of_ble_eq_true rfl) (lv' := [(8, .int _), (7, .int _), (0, .ref _), (1, .int _), (2, .int _), (3, .int _), (4, .int _), (5, .int _), (6, .int _)]) rfl ?_
    refine Z_iload_n 81 rfl rfl rfl ?_
    refine Z_if_ne 82 rfl (tgt := 175) rfl (by omega) (fun c152 => ?_) (fun c152 => ?_)
    · refine Z_iload 92 rfl rfl ?_
      refine Z_if_lt 93 rfl (tgt := 191) rfl (by omega) (fun c177 => ?_) (fun c177 => ?_)
      · refine Z_iconst 99 rfl ?_
        refine Z_istore 100 rfl (Nat.le_of_ble_eq_true rfl) (lv' := [(9, .int _), (8, .int _), (7, .int _), (0, .ref _), (1, .int _), (2, .int _), (3, .int _), (4, .int _), (5, .int _), (6, .int _)]) rfl ?_
        refine Z_iload 101 rfl rfl ?_
        refine Z_if_eq 102 rfl (tgt := 208) rfl (by omega) (fun c196 => ?_) (fun c196 => ?_)
        · refine Z_iload 108 rfl rfl ?_
          refine Z_iload 109 rfl rfl ?_
          refine Z_iadd 110 rfl ?_
          refine Z_ci e.symm ?_
          refine Z_istore 111 rfl (Nat.le_of_ble_eq_true rfl) (lv' := [(5, .int _), (9, .int _), (8, .int _), (7, .int _), (0, .ref _), (1, .int _), (2, .int _), (3, .int _), (4, .int _), (6, .int _)]) rfl ?_
          refine Z_iinc 112 rfl rfl (Nat.le_of_ble_eq_true rfl) (lv' := [(6, .int _), (5, .int _), (9, .int _), (8, .int _), (7, .int _), (0, .ref _), (1, .int _), (2, .int _), (3, .int _), (4, .int _)]) rfl ?_
          refine Z_goto 113 rfl (tgt := 128) rfl ?_
          refine Z_pick [0, 1, 2, 3, 4, 5, 6] (lv' := [(0, .ref _), (1, .int _), (2, .int _), (3, .int _), (4, .int _), (5, .int _), (6, .int _)]) rfl ?_
          exact ih (k + 1) (by omega) (by omega) (by omega) (by omega) (by omega)
        · refine Z_aload_n 103 rfl rfl rfl ?_
          refine Z_iload 104 rfl rfl ?_
          refine Z_iload 105 rfl rfl ?_
          refine Z_callVb (M' := M_C_standIn) 106 isC rfl l_C_362 C_C_standIn (c_C_standIn l p rj s w g q q2 sm co h k (a - bg p.t k) (by omega) (by omega)) (emC ..) (Or.inl ⟨_, _, _, _, rfl, rfl⟩) rfl rfl rfl (Nat.le_of_ble_eq_true rfl) ⟨rfl, rfl, Nat.le_of_ble_eq_true rfl, Nat.le_of_ble_eq_true rfl⟩ ⟨Nat.zero_le _, Nat.zero_le _⟩ (fun out hq => ?_)
          obtain rfl := hq
          refine Z_mem (mgC ..) ?_
          refine Z_zret 107 rfl rfl (bI_nar _) ⟨Nat.le_refl _, Nat.le_refl _⟩ ?_
          first
            | (exfalso; omega)
            | (have hA : At p.t a sd k (a - bg p.t k) := Or.inl ⟨h2, by omega, by omega, by omega⟩
               exact ⟨by rw [bI_t trivial, bI_t ⟨_, _, hA⟩], _, rfl, fun k' u' hB => by obtain ⟨rfl, rfl⟩ := At_un h.1 hA hB; rfl⟩)
      · refine Z_iload 94 rfl rfl ?_
        refine Z_iload 95 rfl rfl ?_
        refine Z_icmp_ge 96 rfl (tgt := 191) rfl (by omega) (by omega) (fun c184 => ?_) (fun c184 => ?_)
        · refine Z_iconst 99 rfl ?_
          refine Z_istore 100 rfl (Nat.le_of_ble_eq_true rfl) (lv' := [(9, .int _), (8, .int _), (7, .int _), (0, .ref _), (1, .int _), (2, .int _), (3, .int _), (4, .int _), (5, .int _), (6, .int _)]) rfl ?_
          refine Z_iload 101 rfl rfl ?_
          refine Z_if_eq 102 rfl (tgt := 208) rfl (by omega) (fun c196 => ?_) (fun c196 => ?_)
          · refine Z_iload 108 rfl rfl ?_
            refine Z_iload 109 rfl rfl ?_
            refine Z_iadd 110 rfl ?_
            refine Z_ci e.symm ?_
            refine Z_istore 111 rfl (Nat.le_of_ble_eq_true rfl) (lv' := [(5, .int _), (9, .int _), (8, .int _), (7, .int _), (0, .ref _), (1, .int _), (2, .int _), (3, .int _), (4, .int _), (6, .int _)]) rfl ?_
            refine Z_iinc 112 rfl rfl (Nat.le_of_ble_eq_true rfl) (lv' := [(6, .int _), (5, .int _), (9, .int _), (8, .int _), (7, .int _), (0, .ref _), (1, .int _), (2, .int _), (3, .int _), (4, .int _)]) rfl ?_
            refine Z_goto 113 rfl (tgt := 128) rfl ?_
            refine Z_pick [0, 1, 2, 3, 4, 5, 6] (lv' := [(0, .ref _), (1, .int _), (2, .int _), (3, .int _), (4, .int _), (5, .int _), (6, .int _)]) rfl ?_
            exact ih (k + 1) (by omega) (by omega) (by omega) (by omega) (by omega)
          · refine Z_aload_n 103 rfl rfl rfl ?_
            refine Z_iload 104 rfl rfl ?_
            refine Z_iload 105 rfl rfl ?_
            refine Z_callVb (M' := M_C_standIn) 106 isC rfl l_C_362 C_C_standIn (c_C_standIn l p rj s w g q q2 sm co h k (a - bg p.t k) (by omega) (by omega)) (emC ..) (Or.inl ⟨_, _, _, _, rfl, rfl⟩) rfl rfl rfl (Nat.le_of_ble_eq_true rfl) ⟨rfl, rfl, Nat.le_of_ble_eq_true rfl, Nat.le_of_ble_eq_true rfl⟩ ⟨Nat.zero_le _, Nat.zero_le _⟩ (fun out hq => ?_)
            obtain rfl := hq
            refine Z_mem (mgC ..) ?_
            refine Z_zret 107 rfl rfl (bI_nar _) ⟨Nat.le_refl _, Nat.le_refl _⟩ ?_
            first
              | (exfalso; omega)
              | (have hA : At p.t a sd k (a - bg p.t k) := Or.inl ⟨h2, by omega, by omega, by omega⟩
                 exact ⟨by rw [bI_t trivial, bI_t ⟨_, _, hA⟩], _, rfl, fun k' u' hB => by obtain ⟨rfl, rfl⟩ := At_un h.1 hA hB; rfl⟩)
        · refine Z_iconst 97 rfl ?_
          refine Z_goto 98 rfl (tgt := 192) rfl ?_
          refine Z_istore 100 rfl (Nat.le_of_ble_eq_true rfl) (lv' := [(9, .int _), (8, .int _), (7, .int _), (0, .ref _), (1, .int _), (2, .int _), (3, .int _), (4, .int _), (5, .int _), (6, .int _)]) rfl ?_
          refine Z_iload 101 rfl rfl ?_
          refine Z_if_eq 102 rfl (tgt := 208) rfl (by omega) (fun c196 => ?_) (fun c196 => ?_)
          · refine Z_iload 108 rfl rfl ?_
            refine Z_iload 109 rfl rfl ?_
            refine Z_iadd 110 rfl ?_
            refine Z_ci e.symm ?_
            refine Z_istore 111 rfl (Nat.le_of_ble_eq_true rfl) (lv' := [(5, .int _), (9, .int _), (8, .int _), (7, .int _), (0, .ref _), (1, .int _), (2, .int _), (3, .int _), (4, .int _), (6, .int _)]) rfl ?_
            refine Z_iinc 112 rfl rfl (Nat.le_of_ble_eq_true rfl) (lv' := [(6, .int _), (5, .int _), (9, .int _), (8, .int _), (7, .int _), (0, .ref _), (1, .int _), (2, .int _), (3, .int _), (4, .int _)]) rfl ?_
            refine Z_goto 113 rfl (tgt := 128) rfl ?_
            refine Z_pick [0, 1, 2, 3, 4, 5, 6] (lv' := [(0, .ref _), (1, .int _), (2, .int _), (3, .int _), (4, .int _), (5, .int _), (6, .int _)]) rfl ?_
            exact ih (k + 1) (by omega) (by omega) (by omega) (by omega) (by omega)
          · refine Z_aload_n 103 rfl rfl rfl ?_
            refine Z_iload 104 rfl rfl ?_
            refine Z_iload 105 rfl rfl ?_
            refine Z_callVb (M' := M_C_standIn) 106 isC rfl l_C_362 C_C_standIn (c_C_standIn l p rj s w g q q2 sm co h k (a - bg p.t k) (by omega) (by omega)) (emC ..) (Or.inl ⟨_, _, _, _, rfl, rfl⟩) rfl rfl rfl (Nat.le_of_ble_eq_true rfl) ⟨rfl, rfl, Nat.le_of_ble_eq_true rfl, Nat.le_of_ble_eq_true rfl⟩ ⟨Nat.zero_le _, Nat.zero_le _⟩ (fun out hq => ?_)
            obtain rfl := hq
            refine Z_mem (mgC ..) ?_
            refine Z_zret 107 rfl rfl (bI_nar _) ⟨Nat.le_refl _, Nat.le_refl _⟩ ?_
            first
              | (exfalso; omega)
              | (have hA : At p.t a sd k (a - bg p.t k) := Or.inl ⟨h2, by omega, by omega, by omega⟩
                 exact ⟨by rw [bI_t trivial, bI_t ⟨_, _, hA⟩], _, rfl, fun k' u' hB => by obtain ⟨rfl, rfl⟩ := At_un h.1 hA hB; rfl⟩)
    · refine Z_iload 83 rfl rfl ?_
      refine Z_if_le 84 rfl (tgt := 171) rfl (by omega) (fun c157 => ?_) (fun c157 => ?_)
      · refine Z_iconst 90 rfl ?_
        refine Z_goto 91 rfl (tgt := 192) rfl ?_
        refine Z_istore 100 rfl (Nat.le_of_ble_eq_true rfl) (lv' := [(9, .int _), (8, .int _), (7, .int _), (0, .ref _), (1, .int _), (2, .int _), (3, .int _), (4, .int _), (5, .int _), (6, .int _)]) rfl ?_
        refine Z_iload 101 rfl rfl ?_
        refine Z_if_eq 102 rfl (tgt := 208) rfl (by omega) (fun c196 => ?_) (fun c196 => ?_)
        · refine Z_iload 108 rfl rfl ?_
          refine Z_iload 109 rfl rfl ?_
          refine Z_iadd 110 rfl ?_
          refine Z_ci e.symm ?_
          refine Z_istore 111 rfl (Nat.le_of_ble_eq_true rfl) (lv' := [(5, .int _), (9, .int _), (8, .int _), (7, .int _), (0, .ref _), (1, .int _), (2, .int _), (3, .int _), (4, .int _), (6, .int _)]) rfl ?_
          refine Z_iinc 112 rfl rfl (Nat.le_of_ble_eq_true rfl) (lv' := [(6, .int _), (5, .int _), (9, .int _), (8, .int _), (7, .int _), (0, .ref _), (1, .int _), (2, .int _), (3, .int _), (4, .int _)]) rfl ?_
          refine Z_goto 113 rfl (tgt := 128) rfl ?_
          refine Z_pick [0, 1, 2, 3, 4, 5, 6] (lv' := [(0, .ref _), (1, .int _), (2, .int _), (3, .int _), (4, .int _), (5, .int _), (6, .int _)]) rfl ?_
          exact ih (k + 1) (by omega) (by omega) (by omega) (by omega) (by omega)
        · refine Z_aload_n 103 rfl rfl rfl ?_
          refine Z_iload 104 rfl rfl ?_
          refine Z_iload 105 rfl rfl ?_
          refine Z_callVb (M' := M_C_standIn) 106 isC rfl l_C_362 C_C_standIn (c_C_standIn l p rj s w g q q2 sm co h k (a - bg p.t k) (by omega) (by omega)) (emC ..) (Or.inl ⟨_, _, _, _, rfl, rfl⟩) rfl rfl rfl (Nat.le_of_ble_eq_true rfl) ⟨rfl, rfl, Nat.le_of_ble_eq_true rfl, Nat.le_of_ble_eq_true rfl⟩ ⟨Nat.zero_le _, Nat.zero_le _⟩ (fun out hq => ?_)
          obtain rfl := hq
          refine Z_mem (mgC ..) ?_
          refine Z_zret 107 rfl rfl (bI_nar _) ⟨Nat.le_refl _, Nat.le_refl _⟩ ?_
          first
            | (exfalso; omega)
            | (have hA : At p.t a sd k (a - bg p.t k) := Or.inl ⟨h2, by omega, by omega, by omega⟩
               exact ⟨by rw [bI_t trivial, bI_t ⟨_, _, hA⟩], _, rfl, fun k' u' hB => by obtain ⟨rfl, rfl⟩ := At_un h.1 hA hB; rfl⟩)
      · refine Z_iload 85 rfl rfl ?_
        refine Z_iload 86 rfl rfl ?_
        refine Z_icmp_gt 87 rfl (tgt := 171) rfl (by omega) (by omega) (fun c164 => ?_) (fun c164 => ?_)
        · refine Z_iconst 90 rfl ?_
          refine Z_goto 91 rfl (tgt := 192) rfl ?_
          refine Z_istore 100 rfl (Nat.le_of_ble_eq_true rfl) (lv' := [(9, .int _), (8, .int _), (7, .int _), (0, .ref _), (1, .int _), (2, .int _), (3, .int _), (4, .int _), (5, .int _), (6, .int _)]) rfl ?_
          refine Z_iload 101 rfl rfl ?_
          refine Z_if_eq 102 rfl (tgt := 208) rfl (by omega) (fun c196 => ?_) (fun c196 => ?_)
          · refine Z_iload 108 rfl rfl ?_
            refine Z_iload 109 rfl rfl ?_
            refine Z_iadd 110 rfl ?_
            refine Z_ci e.symm ?_
            refine Z_istore 111 rfl (Nat.le_of_ble_eq_true rfl) (lv' := [(5, .int _), (9, .int _), (8, .int _), (7, .int _), (0, .ref _), (1, .int _), (2, .int _), (3, .int _), (4, .int _), (6, .int _)]) rfl ?_
            refine Z_iinc 112 rfl rfl (Nat.le_of_ble_eq_true rfl) (lv' := [(6, .int _), (5, .int _), (9, .int _), (8, .int _), (7, .int _), (0, .ref _), (1, .int _), (2, .int _), (3, .int _), (4, .int _)]) rfl ?_
            refine Z_goto 113 rfl (tgt := 128) rfl ?_
            refine Z_pick [0, 1, 2, 3, 4, 5, 6] (lv' := [(0, .ref _), (1, .int _), (2, .int _), (3, .int _), (4, .int _), (5, .int _), (6, .int _)]) rfl ?_
            exact ih (k + 1) (by omega) (by omega) (by omega) (by omega) (by omega)
          · refine Z_aload_n 103 rfl rfl rfl ?_
            refine Z_iload 104 rfl rfl ?_
            refine Z_iload 105 rfl rfl ?_
            refine Z_callVb (M' := M_C_standIn) 106 isC rfl l_C_362 C_C_standIn (c_C_standIn l p rj s w g q q2 sm co h k (a - bg p.t k) (by omega) (by omega)) (emC ..) (Or.inl ⟨_, _, _, _, rfl, rfl⟩) rfl rfl rfl (Nat.le_of_ble_eq_true rfl) ⟨rfl, rfl, Nat.le_of_ble_eq_true rfl, Nat.le_of_ble_eq_true rfl⟩ ⟨Nat.zero_le _, Nat.zero_le _⟩ (fun out hq => ?_)
            obtain rfl := hq
            refine Z_mem (mgC ..) ?_
            refine Z_zret 107 rfl rfl (bI_nar _) ⟨Nat.le_refl _, Nat.le_refl _⟩ ?_
            first
              | (exfalso; omega)
              | (have hA : At p.t a sd k (a - bg p.t k) := Or.inl ⟨h2, by omega, by omega, by omega⟩
                 exact ⟨by rw [bI_t trivial, bI_t ⟨_, _, hA⟩], _, rfl, fun k' u' hB => by obtain ⟨rfl, rfl⟩ := At_un h.1 hA hB; rfl⟩)
        · refine Z_iconst 88 rfl ?_
          refine Z_goto 89 rfl (tgt := 192) rfl ?_
          refine Z_istore 100 rfl (Nat.le_of_ble_eq_true rfl) (lv' := [(9, .int _), (8, .int _), (7, .int _), (0, .ref _), (1, .int _), (2, .int _), (3, .int _), (4, .int _), (5, .int _), (6, .int _)]) rfl ?_
          refine Z_iload 101 rfl rfl ?_
          refine Z_if_eq 102 rfl (tgt := 208) rfl (by omega) (fun c196 => ?_) (fun c196 => ?_)
          · refine Z_iload 108 rfl rfl ?_
            refine Z_iload 109 rfl rfl ?_
            refine Z_iadd 110 rfl ?_
            refine Z_ci e.symm ?_
            refine Z_istore 111 rfl (Nat.le_of_ble_eq_true rfl) (lv' := [(5, .int _), (9, .int _), (8, .int _), (7, .int _), (0, .ref _), (1, .int _), (2, .int _), (3, .int _), (4, .int _), (6, .int _)]) rfl ?_
            refine Z_iinc 112 rfl rfl (Nat.le_of_ble_eq_true rfl) (lv' := [(6, .int _), (5, .int _), (9, .int _), (8, .int _), (7, .int _), (0, .ref _), (1, .int _), (2, .int _), (3, .int _), (4, .int _)]) rfl ?_
            refine Z_goto 113 rfl (tgt := 128) rfl ?_
            refine Z_pick [0, 1, 2, 3, 4, 5, 6] (lv' := [(0, .ref _), (1, .int _), (2, .int _), (3, .int _), (4, .int _), (5, .int _), (6, .int _)]) rfl ?_
            exact ih (k + 1) (by omega) (by omega) (by omega) (by omega) (by omega)
          · refine Z_aload_n 103 rfl rfl rfl ?_
            refine Z_iload 104 rfl rfl ?_
            refine Z_iload 105 rfl rfl ?_
            refine Z_callVb (M' := M_C_standIn) 106 isC rfl l_C_362 C_C_standIn (c_C_standIn l p rj s w g q q2 sm co h k (a - bg p.t k) (by omega) (by omega)) (emC ..) (Or.inl ⟨_, _, _, _, rfl, rfl⟩) rfl rfl rfl (Nat.le_of_ble_eq_true rfl) ⟨rfl, rfl, Nat.le_of_ble_eq_true rfl, Nat.le_of_ble_eq_true rfl⟩ ⟨Nat.zero_le _, Nat.zero_le _⟩ (fun out hq => ?_)
            obtain rfl := hq
            refine Z_mem (mgC ..) ?_
            refine Z_zret 107 rfl rfl (bI_nar _) ⟨Nat.le_refl _, Nat.le_refl _⟩ ?_
            first
              | (exfalso; omega)
              | (have hA : At p.t a sd k (a - bg p.t k) := Or.inl ⟨h2, by omega, by omega, by omega⟩
                 exact ⟨by rw [bI_t trivial, bI_t ⟨_, _, hA⟩], _, rfl, fun k' u' hB => by obtain ⟨rfl, rfl⟩ := At_un h.1 hA hB; rfl⟩)
theorem c_C_standAt (h : PV p) (a sd : Int) (ha : inI a) (hs : inI sd) : Con l M_C_standAt R_C_standAt 0 0 false [.ref 0, .int (iI a), .int (iI sd)] (eC p rj s w g q q2 sm co) (zAb (∃ k u, At p.t a sd k u) (PAt p rj w g q q2 sm co a sd)) := by
  have h1 := h.1.1.1
  have ht := tot_bd h.1.1
  have e0 := bg_0 p.t
  have hl := fun k => h.1.1.2.2.1 k
  refine Con.of_Z (by decide) D_C_standAt (Nat.le_of_ble_eq_true rfl) ?_
  refine Z_aload_n 0 rfl rfl rfl ?_
  refine Z_get 1 rfl f_C_14 rfl rfl ?_
  refine Z_callVip (M' := M_T_size) 2 [1, 2, 3, 4] rfl l_C_111 C_T_size (c_T_size l p.t) ⟨by decide, (zEL.c (Or.inl rfl) (zEL.c (Or.inl rfl) (zEL.c (Or.inl rfl) (zEL.c (Or.inl rfl) zEL.n))))⟩ (Or.inl ⟨_, _, _, _, rfl, rfl⟩) rfl rfl rfl (Nat.le_of_ble_eq_true rfl) ⟨rfl, rfl, Nat.le_of_ble_eq_true rfl, Nat.le_of_ble_eq_true rfl⟩ ⟨Nat.zero_le _, Nat.zero_le _⟩ ?_
  refine Z_istore_n 3 rfl rfl (Nat.le_of_ble_eq_true rfl) (lv' := [(3, .int _), (0, .ref _), (1, .int _), (2, .int _)]) rfl ?_
  refine Z_aload_n 4 rfl rfl rfl ?_
  refine Z_get 5 rfl f_C_14 rfl rfl ?_
  refine Z_callVip (M' := M_T_total) 6 [1, 2, 3, 4] rfl l_C_103 C_T_total (c_T_total l p.t h.1.1) ⟨by decide, (zEL.c (Or.inl rfl) (zEL.c (Or.inl rfl) (zEL.c (Or.inl rfl) (zEL.c (Or.inl rfl) zEL.n))))⟩ (Or.inl ⟨_, _, _, _, rfl, rfl⟩) rfl rfl rfl (Nat.le_of_ble_eq_true rfl) ⟨rfl, rfl, Nat.le_of_ble_eq_true rfl, Nat.le_of_ble_eq_true rfl⟩ ⟨Nat.zero_le _, Nat.zero_le _⟩ ?_
  refine Z_istore 7 rfl (Nat.le_of_ble_eq_true rfl) (lv' := [(4, .int _), (3, .int _), (0, .ref _), (1, .int _), (2, .int _)]) rfl ?_
  refine Z_iload_n 8 rfl rfl rfl ?_
  refine Z_if_eq 9 rfl (tgt := 40) rfl (by omega) (fun c18 => ?_) (fun c18 => ?_)
  · refine Z_iconst 20 rfl ?_
    refine Z_zret 21 rfl rfl rfl ⟨Nat.le_refl _, Nat.le_refl _⟩ ?_
    exact ⟨bF (fun ⟨k, u, hA⟩ => by have := At_in h.1 hA; omega), s, rfl, fun k u hA => by have := At_in h.1 hA; exfalso; omega⟩
  · refine Z_iload_n 10 rfl rfl rfl ?_
    refine Z_if_lt 11 rfl (tgt := 40) rfl (by omega) (fun c22 => ?_) (fun c22 => ?_)
    · refine Z_iconst 20 rfl ?_
      refine Z_zret 21 rfl rfl rfl ⟨Nat.le_refl _, Nat.le_refl _⟩ ?_
      exact ⟨bF (fun ⟨k, u, hA⟩ => by have := At_in h.1 hA; omega), s, rfl, fun k u hA => by have := At_in h.1 hA; exfalso; omega⟩
    · refine Z_iload_n 12 rfl rfl rfl ?_
      refine Z_iload 13 rfl rfl ?_
      refine Z_icmp_gt 14 rfl (tgt := 40) rfl (by omega) (by omega) (fun c28 => ?_) (fun c28 => ?_)
      · refine Z_iconst 20 rfl ?_
        refine Z_zret 21 rfl rfl rfl ⟨Nat.le_refl _, Nat.le_refl _⟩ ?_
        exact ⟨bF (fun ⟨k, u, hA⟩ => by have := At_in h.1 hA; omega), s, rfl, fun k u hA => by have := At_in h.1 hA; exfalso; omega⟩
      · refine Z_iload_n 15 rfl rfl rfl ?_
        refine Z_if_lt 16 rfl (tgt := 40) rfl (by omega) (fun c32 => ?_) (fun c32 => ?_)
        · refine Z_iconst 20 rfl ?_
          refine Z_zret 21 rfl rfl rfl ⟨Nat.le_refl _, Nat.le_refl _⟩ ?_
          exact ⟨bF (fun ⟨k, u, hA⟩ => by have := At_in h.1 hA; omega), s, rfl, fun k u hA => by have := At_in h.1 hA; exfalso; omega⟩
        · refine Z_iload_n 17 rfl rfl rfl ?_
          refine Z_iconst 18 rfl ?_
          refine Z_icmp_le 19 rfl (tgt := 42) rfl (by omega) (by omega) (fun c37 => ?_) (fun c37 => ?_)
          · refine Z_iload_n 22 rfl rfl rfl ?_
            refine Z_if_ne 23 rfl (tgt := 86) rfl (by omega) (fun c43 => ?_) (fun c43 => ?_)
            · refine Z_iload_n 46 rfl rfl rfl ?_
              refine Z_iload 47 rfl rfl ?_
              refine Z_icmp_ne 48 rfl (tgt := 122) rfl (by omega) (by omega) (fun c89 => ?_) (fun c89 => ?_)
              · refine Z_iconst 65 rfl ?_
                refine Z_istore 66 rfl (Nat.le_of_ble_eq_true rfl) (lv' := [(5, .int _), (4, .int _), (3, .int _), (0, .ref _), (1, .int _), (2, .int _)]) rfl ?_
                refine Z_iconst 67 rfl ?_
                refine Z_istore 68 rfl (Nat.le_of_ble_eq_true rfl) (lv' := [(6, .int _), (5, .int _), (4, .int _), (3, .int _), (0, .ref _), (1, .int _), (2, .int _)]) rfl ?_
                refine Z_pick [0, 1, 2, 3, 4, 5, 6] (lv' := [(0, .ref _), (1, .int _), (2, .int _), (3, .int _), (4, .int _), (5, .int _), (6, .int _)]) rfl ?_
                exact lp_C_standAt l p rj s w g q q2 sm co h a sd (by omega) (by omega) (by omega) (by omega) 14 0 (by omega) (by omega) (by omega) (by omega) (by omega)
              · refine Z_iload_n 49 rfl rfl rfl ?_
                refine Z_iconst 50 rfl ?_
                refine Z_icmp_ne 51 rfl (tgt := 122) rfl (by omega) (by omega) (fun c94 => ?_) (fun c94 => ?_)
                · refine Z_iconst 65 rfl ?_
                  refine Z_istore 66 rfl (Nat.le_of_ble_eq_true rfl) (lv' := [(5, .int _), (4, .int _), (3, .int _), (0, .ref _), (1, .int _), (2, .int _)]) rfl ?_
                  refine Z_iconst 67 rfl ?_
                  refine Z_istore 68 rfl (Nat.le_of_ble_eq_true rfl) (lv' := [(6, .int _), (5, .int _), (4, .int _), (3, .int _), (0, .ref _), (1, .int _), (2, .int _)]) rfl ?_
                  refine Z_pick [0, 1, 2, 3, 4, 5, 6] (lv' := [(0, .ref _), (1, .int _), (2, .int _), (3, .int _), (4, .int _), (5, .int _), (6, .int _)]) rfl ?_
                  exact lp_C_standAt l p rj s w g q q2 sm co h a sd (by omega) (by omega) (by omega) (by omega) 14 0 (by omega) (by omega) (by omega) (by omega) (by omega)
                · refine Z_aload_n 52 rfl rfl rfl ?_
                  refine Z_get 53 rfl f_C_14 rfl rfl ?_
                  refine Z_callVbp (M' := M_T_isClosed) 54 [1, 2, 3, 4] rfl l_C_159 C_T_isClosed (c_T_isClosed l p.t h.1.1) ⟨by decide, (zEL.c (Or.inl rfl) (zEL.c (Or.inl rfl) (zEL.c (Or.inl rfl) (zEL.c (Or.inl rfl) zEL.n))))⟩ (Or.inl ⟨_, _, _, _, rfl, rfl⟩) rfl rfl rfl (Nat.le_of_ble_eq_true rfl) ⟨rfl, rfl, Nat.le_of_ble_eq_true rfl, Nat.le_of_ble_eq_true rfl⟩ ⟨Nat.zero_le _, Nat.zero_le _⟩ ?_
                  refine Z_ifb_eq 55 rfl (tgt := 120) rfl (fun c104 => ?_) (fun c104 => ?_)
                  · refine Z_iconst 63 rfl ?_
                    refine Z_zret 64 rfl rfl rfl ⟨Nat.le_refl _, Nat.le_refl _⟩ ?_
                    first
                      | exact ⟨bF (fun ⟨k, u, hA⟩ => c104 ((At_in h.1 hA).2.2.2.2.2 c89 c94)), s, rfl, fun k u hA => absurd ((At_in h.1 hA).2.2.2.2.2 c89 c94) c104⟩
                      | (have hA : At p.t a sd 0 0 := Or.inr ⟨c104, by omega, Or.inr ⟨by omega, by omega, rfl, rfl⟩⟩
                         exact ⟨bT ⟨_, _, hA⟩, _, rfl, fun k' u' hB => by obtain ⟨rfl, rfl⟩ := At_un h.1 hA hB; rfl⟩)
                  · refine Z_aload_n 56 rfl rfl rfl ?_
                    refine Z_iconst 57 rfl ?_
                    refine Z_iconst 58 rfl ?_
                    refine Z_callVb (M' := M_C_standIn) 59 isC rfl l_C_362 C_C_standIn (c_C_standIn l p rj s w g q q2 sm co h 0 0 (by omega) (by omega)) (emC ..) (Or.inl ⟨_, _, _, _, rfl, rfl⟩) rfl rfl rfl (Nat.le_of_ble_eq_true rfl) ⟨rfl, rfl, Nat.le_of_ble_eq_true rfl, Nat.le_of_ble_eq_true rfl⟩ ⟨Nat.zero_le _, Nat.zero_le _⟩ (fun out hq => ?_)
                    obtain rfl := hq
                    refine Z_mem (mgC ..) ?_
                    refine Z_ifb_eq 60 rfl (tgt := 120) rfl (fun c113 => ?_) (fun c113 => ?_)
                    · exact absurd trivial (by assumption)
                    refine Z_iconst 61 rfl ?_
                    refine Z_goto 62 rfl (tgt := 121) rfl ?_
                    refine Z_zret 64 rfl rfl rfl ⟨Nat.le_refl _, Nat.le_refl _⟩ ?_
                    first
                      | exact ⟨bF (fun ⟨k, u, hA⟩ => c104 ((At_in h.1 hA).2.2.2.2.2 c89 c94)), s, rfl, fun k u hA => absurd ((At_in h.1 hA).2.2.2.2.2 c89 c94) c104⟩
                      | (have hA : At p.t a sd 0 0 := Or.inr ⟨c104, by omega, Or.inr ⟨by omega, by omega, rfl, rfl⟩⟩
                         exact ⟨bT ⟨_, _, hA⟩, _, rfl, fun k' u' hB => by obtain ⟨rfl, rfl⟩ := At_un h.1 hA hB; rfl⟩)
            · refine Z_iload_n 24 rfl rfl rfl ?_
              refine Z_if_ne 25 rfl (tgt := 86) rfl (by omega) (fun c47 => ?_) (fun c47 => ?_)
              · refine Z_iload_n 46 rfl rfl rfl ?_
                refine Z_iload 47 rfl rfl ?_
                refine Z_icmp_ne 48 rfl (tgt := 122) rfl (by omega) (by omega) (fun c89 => ?_) (fun c89 => ?_)
                · refine Z_iconst 65 rfl ?_
                  refine Z_istore 66 rfl (Nat.le_of_ble_eq_true rfl) (lv' := [(5, .int _), (4, .int _), (3, .int _), (0, .ref _), (1, .int _), (2, .int _)]) rfl ?_
                  refine Z_iconst 67 rfl ?_
                  refine Z_istore 68 rfl (Nat.le_of_ble_eq_true rfl) (lv' := [(6, .int _), (5, .int _), (4, .int _), (3, .int _), (0, .ref _), (1, .int _), (2, .int _)]) rfl ?_
                  refine Z_pick [0, 1, 2, 3, 4, 5, 6] (lv' := [(0, .ref _), (1, .int _), (2, .int _), (3, .int _), (4, .int _), (5, .int _), (6, .int _)]) rfl ?_
                  exact lp_C_standAt l p rj s w g q q2 sm co h a sd (by omega) (by omega) (by omega) (by omega) 14 0 (by omega) (by omega) (by omega) (by omega) (by omega)
                · refine Z_iload_n 49 rfl rfl rfl ?_
                  refine Z_iconst 50 rfl ?_
                  refine Z_icmp_ne 51 rfl (tgt := 122) rfl (by omega) (by omega) (fun c94 => ?_) (fun c94 => ?_)
                  · refine Z_iconst 65 rfl ?_
                    refine Z_istore 66 rfl (Nat.le_of_ble_eq_true rfl) (lv' := [(5, .int _), (4, .int _), (3, .int _), (0, .ref _), (1, .int _), (2, .int _)]) rfl ?_
                    refine Z_iconst 67 rfl ?_
                    refine Z_istore 68 rfl (Nat.le_of_ble_eq_true rfl) (lv' := [(6, .int _), (5, .int _), (4, .int _), (3, .int _), (0, .ref _), (1, .int _), (2, .int _)]) rfl ?_
                    refine Z_pick [0, 1, 2, 3, 4, 5, 6] (lv' := [(0, .ref _), (1, .int _), (2, .int _), (3, .int _), (4, .int _), (5, .int _), (6, .int _)]) rfl ?_
                    exact lp_C_standAt l p rj s w g q q2 sm co h a sd (by omega) (by omega) (by omega) (by omega) 14 0 (by omega) (by omega) (by omega) (by omega) (by omega)
                  · refine Z_aload_n 52 rfl rfl rfl ?_
                    refine Z_get 53 rfl f_C_14 rfl rfl ?_
                    refine Z_callVbp (M' := M_T_isClosed) 54 [1, 2, 3, 4] rfl l_C_159 C_T_isClosed (c_T_isClosed l p.t h.1.1) ⟨by decide, (zEL.c (Or.inl rfl) (zEL.c (Or.inl rfl) (zEL.c (Or.inl rfl) (zEL.c (Or.inl rfl) zEL.n))))⟩ (Or.inl ⟨_, _, _, _, rfl, rfl⟩) rfl rfl rfl (Nat.le_of_ble_eq_true rfl) ⟨rfl, rfl, Nat.le_of_ble_eq_true rfl, Nat.le_of_ble_eq_true rfl⟩ ⟨Nat.zero_le _, Nat.zero_le _⟩ ?_
                    refine Z_ifb_eq 55 rfl (tgt := 120) rfl (fun c104 => ?_) (fun c104 => ?_)
                    · refine Z_iconst 63 rfl ?_
                      refine Z_zret 64 rfl rfl rfl ⟨Nat.le_refl _, Nat.le_refl _⟩ ?_
                      first
                        | exact ⟨bF (fun ⟨k, u, hA⟩ => c104 ((At_in h.1 hA).2.2.2.2.2 c89 c94)), s, rfl, fun k u hA => absurd ((At_in h.1 hA).2.2.2.2.2 c89 c94) c104⟩
                        | (have hA : At p.t a sd 0 0 := Or.inr ⟨c104, by omega, Or.inr ⟨by omega, by omega, rfl, rfl⟩⟩
                           exact ⟨bT ⟨_, _, hA⟩, _, rfl, fun k' u' hB => by obtain ⟨rfl, rfl⟩ := At_un h.1 hA hB; rfl⟩)
                    · refine Z_aload_n 56 rfl rfl rfl ?_
                      refine Z_iconst 57 rfl ?_
                      refine Z_iconst 58 rfl ?_
                      refine Z_callVb (M' := M_C_standIn) 59 isC rfl l_C_362 C_C_standIn (c_C_standIn l p rj s w g q q2 sm co h 0 0 (by omega) (by omega)) (emC ..) (Or.inl ⟨_, _, _, _, rfl, rfl⟩) rfl rfl rfl (Nat.le_of_ble_eq_true rfl) ⟨rfl, rfl, Nat.le_of_ble_eq_true rfl, Nat.le_of_ble_eq_true rfl⟩ ⟨Nat.zero_le _, Nat.zero_le _⟩ (fun out hq => ?_)
                      obtain rfl := hq
                      refine Z_mem (mgC ..) ?_
                      refine Z_ifb_eq 60 rfl (tgt := 120) rfl (fun c113 => ?_) (fun c113 => ?_)
                      · exact absurd trivial (by assumption)
                      refine Z_iconst 61 rfl ?_
                      refine Z_goto 62 rfl (tgt := 121) rfl ?_
                      refine Z_zret 64 rfl rfl rfl ⟨Nat.le_refl _, Nat.le_refl _⟩ ?_
                      first
                        | exact ⟨bF (fun ⟨k, u, hA⟩ => c104 ((At_in h.1 hA).2.2.2.2.2 c89 c94)), s, rfl, fun k u hA => absurd ((At_in h.1 hA).2.2.2.2.2 c89 c94) c104⟩
                        | (have hA : At p.t a sd 0 0 := Or.inr ⟨c104, by omega, Or.inr ⟨by omega, by omega, rfl, rfl⟩⟩
                           exact ⟨bT ⟨_, _, hA⟩, _, rfl, fun k' u' hB => by obtain ⟨rfl, rfl⟩ := At_un h.1 hA hB; rfl⟩)
              · refine Z_aload_n 26 rfl rfl rfl ?_
                refine Z_get 27 rfl f_C_14 rfl rfl ?_
                refine Z_callVbp (M' := M_T_isClosed) 28 [1, 2, 3, 4] rfl l_C_159 C_T_isClosed (c_T_isClosed l p.t h.1.1) ⟨by decide, (zEL.c (Or.inl rfl) (zEL.c (Or.inl rfl) (zEL.c (Or.inl rfl) (zEL.c (Or.inl rfl) zEL.n))))⟩ (Or.inl ⟨_, _, _, _, rfl, rfl⟩) rfl rfl rfl (Nat.le_of_ble_eq_true rfl) ⟨rfl, rfl, Nat.le_of_ble_eq_true rfl, Nat.le_of_ble_eq_true rfl⟩ ⟨Nat.zero_le _, Nat.zero_le _⟩ ?_
                refine Z_ifb_eq 29 rfl (tgt := 84) rfl (fun c57 => ?_) (fun c57 => ?_)
                · refine Z_iconst 44 rfl ?_
                  refine Z_zret 45 rfl rfl rfl ⟨Nat.le_refl _, Nat.le_refl _⟩ ?_
                  first
                    | exact ⟨bF (fun ⟨k, u, hA⟩ => c57 ((At_in h.1 hA).2.2.2.2.1 c43 c47)), s, rfl, fun k u hA => absurd ((At_in h.1 hA).2.2.2.2.1 c43 c47) c57⟩
                    | (have hA : At p.t a sd (p.t.2.2.2 - 1) (p.t.2.1 (p.t.2.2.2 - 1)) := Or.inr ⟨c57, by omega, Or.inl ⟨by omega, by omega, rfl, rfl⟩⟩
                       exact ⟨bT ⟨_, _, hA⟩, _, rfl, fun k' u' hB => by obtain ⟨rfl, rfl⟩ := At_un h.1 hA hB; rfl⟩)
                · refine Z_aload_n 30 rfl rfl rfl ?_
                  refine Z_iload_n 31 rfl rfl rfl ?_
                  refine Z_iconst 32 rfl ?_
                  refine Z_isub 33 rfl ?_
                  refine Z_aload_n 34 rfl rfl rfl ?_
                  refine Z_get 35 rfl f_C_14 rfl rfl ?_
                  refine Z_iload_n 36 rfl rfl rfl ?_
                  refine Z_iconst 37 rfl ?_
                  refine Z_isub 38 rfl ?_
                  refine Z_callVip (M' := M_T_longOf) 39 [1, 2, 3, 4] rfl l_C_125 C_T_longOf (c_T_longOf l p.t (p.t.2.2.2 - 1) (by omega)) ⟨by decide, (zEL.c (Or.inl rfl) (zEL.c (Or.inl rfl) (zEL.c (Or.inl rfl) (zEL.c (Or.inl rfl) zEL.n))))⟩ (Or.inl ⟨_, _, _, _, rfl, rfl⟩) rfl rfl rfl (Nat.le_of_ble_eq_true rfl) ⟨rfl, rfl, Nat.le_of_ble_eq_true rfl, Nat.le_of_ble_eq_true rfl⟩ ⟨Nat.zero_le _, Nat.zero_le _⟩ ?_
                  refine Z_callVb (M' := M_C_standIn) 40 isC rfl l_C_362 C_C_standIn (c_C_standIn l p rj s w g q q2 sm co h (p.t.2.2.2 - 1) (p.t.2.1 (p.t.2.2.2 - 1)) (by omega) (by have := hl (p.t.2.2.2 - 1); omega)) (emC ..) (Or.inl ⟨_, _, _, _, rfl, rfl⟩) rfl rfl rfl (Nat.le_of_ble_eq_true rfl) ⟨rfl, rfl, Nat.le_of_ble_eq_true rfl, Nat.le_of_ble_eq_true rfl⟩ ⟨Nat.zero_le _, Nat.zero_le _⟩ (fun out hq => ?_)
                  obtain rfl := hq
                  refine Z_mem (mgC ..) ?_
                  refine Z_ifb_eq 41 rfl (tgt := 84) rfl (fun c77 => ?_) (fun c77 => ?_)
                  · exact absurd trivial (by assumption)
                  refine Z_iconst 42 rfl ?_
                  refine Z_goto 43 rfl (tgt := 85) rfl ?_
                  refine Z_zret 45 rfl rfl rfl ⟨Nat.le_refl _, Nat.le_refl _⟩ ?_
                  first
                    | exact ⟨bF (fun ⟨k, u, hA⟩ => c57 ((At_in h.1 hA).2.2.2.2.1 c43 c47)), s, rfl, fun k u hA => absurd ((At_in h.1 hA).2.2.2.2.1 c43 c47) c57⟩
                    | (have hA : At p.t a sd (p.t.2.2.2 - 1) (p.t.2.1 (p.t.2.2.2 - 1)) := Or.inr ⟨c57, by omega, Or.inl ⟨by omega, by omega, rfl, rfl⟩⟩
                       exact ⟨bT ⟨_, _, hA⟩, _, rfl, fun k' u' hB => by obtain ⟨rfl, rfl⟩ := At_un h.1 hA hB; rfl⟩)
          · refine Z_iconst 20 rfl ?_
            refine Z_zret 21 rfl rfl rfl ⟨Nat.le_refl _, Nat.le_refl _⟩ ?_
            exact ⟨bF (fun ⟨k, u, hA⟩ => by have := At_in h.1 hA; omega), s, rfl, fun k u hA => by have := At_in h.1 hA; exfalso; omega⟩
/-! the numbers at a spot -/
def rch (S : Int → Int) (s : SS) : Int := S 0 * s.1 + lf s
def cur (S : Int → Int) (s : SS) : Int := rch S s + 3249 * s.2.2.2.1
def prl (S : Int → Int) (s : SS) : Int := S 3 * s.1
def spr (S : Int → Int) (s : SS) : Int := S 2 * lf s
def ine (S : Int → Int) (s : SS) : Int := S 1 * S 4 * S 4 * 3249 * s.2.2.2.1
def frc (S : Int → Int) (s : SS) : Int := prl S s + spr S s + ine S s
theorem c_C_reachHere (h : PV p) : Con l M_C_reachHere R_C_reachHere 0 0 false [.ref 0] (eC p rj s w g q q2 sm co) (zAl (rch p.s s) (fun m => m = eC p rj s w g q q2 sm co)) := by
  refine Con.of_Z (by decide) D_C_reachHere (Nat.le_of_ble_eq_true rfl) ?_
  refine Z_aload_n 0 rfl rfl rfl ?_
  refine Z_iconst 1 rfl ?_
  refine Z_callVlp (M' := M_C_setting) 2 isC rfl l_C_274 C_C_setting (c_C_setting l p rj s w g q q2 sm co h 0 (by omega)) (emC ..) (Or.inl ⟨_, _, _, _, rfl, rfl⟩) rfl rfl rfl (Nat.le_of_ble_eq_true rfl) ⟨rfl, rfl, Nat.le_of_ble_eq_true rfl, Nat.le_of_ble_eq_true rfl⟩ ⟨Nat.zero_le _, Nat.zero_le _⟩ ?_
  refine Z_aload_n 3 rfl rfl rfl ?_
  refine Z_get 4 rfl f_C_53 rfl rfl ?_
  refine Z_getN 5 rfl f_C_195 rfl rfl ?_
  refine Z_lmul 6 rfl ?_
  refine Z_aload_n 7 rfl rfl rfl ?_
  refine Z_get 8 rfl f_C_53 rfl rfl ?_
  refine Z_callVlp (M' := M_S_lift) 9 [20] rfl l_C_184 C_S_lift (c_S_lift l s) ⟨by decide, (zEL.c (Or.inl rfl) zEL.n)⟩ (Or.inl ⟨_, _, _, _, rfl, rfl⟩) rfl rfl rfl (Nat.le_of_ble_eq_true rfl) ⟨rfl, rfl, Nat.le_of_ble_eq_true rfl, Nat.le_of_ble_eq_true rfl⟩ ⟨Nat.zero_le _, Nat.zero_le _⟩ ?_
  refine Z_ladd 10 rfl ?_
  refine Z_lret 11 rfl rfl ⟨Nat.le_refl _, Nat.le_refl _⟩ ?_
  exact ⟨rfl, rfl⟩
theorem c_C_curveHere (h : PV p) : Con l M_C_curveHere R_C_curveHere 0 0 false [.ref 0] (eC p rj s w g q q2 sm co) (zAl (cur p.s s) (fun m => m = eC p rj s w g q q2 sm co)) := by
  refine Con.of_Z (by decide) D_C_curveHere (Nat.le_of_ble_eq_true rfl) ?_
  refine Z_aload_n 0 rfl rfl rfl ?_
  refine Z_callVlp (M' := M_C_reachHere) 1 isC rfl l_C_219 C_C_reachHere (c_C_reachHere l p rj s w g q q2 sm co h) (emC ..) (Or.inl ⟨_, _, _, _, rfl, rfl⟩) rfl rfl rfl (Nat.le_of_ble_eq_true rfl) ⟨rfl, rfl, Nat.le_of_ble_eq_true rfl, Nat.le_of_ble_eq_true rfl⟩ ⟨Nat.zero_le _, Nat.zero_le _⟩ ?_
  refine Z_ldc2 2 rfl k_C_242 (c := 3249) rfl ?_
  refine Z_aload_n 3 rfl rfl rfl ?_
  refine Z_get 4 rfl f_C_53 rfl rfl ?_
  refine Z_getN 5 rfl f_C_192 rfl rfl ?_
  refine Z_lmul 6 rfl ?_
  refine Z_ladd 7 rfl ?_
  refine Z_lret 8 rfl rfl ⟨Nat.le_refl _, Nat.le_refl _⟩ ?_
  exact ⟨rfl, rfl⟩
theorem c_C_preloadHere (h : PV p) : Con l M_C_preloadHere R_C_preloadHere 0 0 false [.ref 0] (eC p rj s w g q q2 sm co) (zAl (prl p.s s) (fun m => m = eC p rj s w g q q2 sm co)) := by
  refine Con.of_Z (by decide) D_C_preloadHere (Nat.le_of_ble_eq_true rfl) ?_
  refine Z_aload_n 0 rfl rfl rfl ?_
  refine Z_iconst 1 rfl ?_
  refine Z_callVlp (M' := M_C_setting) 2 isC rfl l_C_274 C_C_setting (c_C_setting l p rj s w g q q2 sm co h 3 (by omega)) (emC ..) (Or.inl ⟨_, _, _, _, rfl, rfl⟩) rfl rfl rfl (Nat.le_of_ble_eq_true rfl) ⟨rfl, rfl, Nat.le_of_ble_eq_true rfl, Nat.le_of_ble_eq_true rfl⟩ ⟨Nat.zero_le _, Nat.zero_le _⟩ ?_
  refine Z_aload_n 3 rfl rfl rfl ?_
  refine Z_get 4 rfl f_C_53 rfl rfl ?_
  refine Z_getN 5 rfl f_C_195 rfl rfl ?_
  refine Z_lmul 6 rfl ?_
  refine Z_lret 7 rfl rfl ⟨Nat.le_refl _, Nat.le_refl _⟩ ?_
  exact ⟨rfl, rfl⟩
theorem c_C_springHere (h : PV p) : Con l M_C_springHere R_C_springHere 0 0 false [.ref 0] (eC p rj s w g q q2 sm co) (zAl (spr p.s s) (fun m => m = eC p rj s w g q q2 sm co)) := by
  refine Con.of_Z (by decide) D_C_springHere (Nat.le_of_ble_eq_true rfl) ?_
  refine Z_aload_n 0 rfl rfl rfl ?_
  refine Z_iconst 1 rfl ?_
  refine Z_callVlp (M' := M_C_setting) 2 isC rfl l_C_274 C_C_setting (c_C_setting l p rj s w g q q2 sm co h 2 (by omega)) (emC ..) (Or.inl ⟨_, _, _, _, rfl, rfl⟩) rfl rfl rfl (Nat.le_of_ble_eq_true rfl) ⟨rfl, rfl, Nat.le_of_ble_eq_true rfl, Nat.le_of_ble_eq_true rfl⟩ ⟨Nat.zero_le _, Nat.zero_le _⟩ ?_
  refine Z_aload_n 3 rfl rfl rfl ?_
  refine Z_get 4 rfl f_C_53 rfl rfl ?_
  refine Z_callVlp (M' := M_S_lift) 5 [20] rfl l_C_184 C_S_lift (c_S_lift l s) ⟨by decide, (zEL.c (Or.inl rfl) zEL.n)⟩ (Or.inl ⟨_, _, _, _, rfl, rfl⟩) rfl rfl rfl (Nat.le_of_ble_eq_true rfl) ⟨rfl, rfl, Nat.le_of_ble_eq_true rfl, Nat.le_of_ble_eq_true rfl⟩ ⟨Nat.zero_le _, Nat.zero_le _⟩ ?_
  refine Z_lmul 6 rfl ?_
  refine Z_lret 7 rfl rfl ⟨Nat.le_refl _, Nat.le_refl _⟩ ?_
  exact ⟨rfl, rfl⟩
theorem c_C_inertiaHere (h : PV p) : Con l M_C_inertiaHere R_C_inertiaHere 0 0 false [.ref 0] (eC p rj s w g q q2 sm co) (zAl (ine p.s s) (fun m => m = eC p rj s w g q q2 sm co)) := by
  refine Con.of_Z (by decide) D_C_inertiaHere (Nat.le_of_ble_eq_true rfl) ?_
  refine Z_aload_n 0 rfl rfl rfl ?_
  refine Z_iconst 1 rfl ?_
  refine Z_callVlp (M' := M_C_setting) 2 isC rfl l_C_274 C_C_setting (c_C_setting l p rj s w g q q2 sm co h 1 (by omega)) (emC ..) (Or.inl ⟨_, _, _, _, rfl, rfl⟩) rfl rfl rfl (Nat.le_of_ble_eq_true rfl) ⟨rfl, rfl, Nat.le_of_ble_eq_true rfl, Nat.le_of_ble_eq_true rfl⟩ ⟨Nat.zero_le _, Nat.zero_le _⟩ ?_
  refine Z_aload_n 3 rfl rfl rfl ?_
  refine Z_iconst 4 rfl ?_
  refine Z_callVlp (M' := M_C_setting) 5 isC rfl l_C_274 C_C_setting (c_C_setting l p rj s w g q q2 sm co h 4 (by omega)) (emC ..) (Or.inl ⟨_, _, _, _, rfl, rfl⟩) rfl rfl rfl (Nat.le_of_ble_eq_true rfl) ⟨rfl, rfl, Nat.le_of_ble_eq_true rfl, Nat.le_of_ble_eq_true rfl⟩ ⟨Nat.zero_le _, Nat.zero_le _⟩ ?_
  refine Z_lmul 6 rfl ?_
  refine Z_aload_n 7 rfl rfl rfl ?_
  refine Z_iconst 8 rfl ?_
  refine Z_callVlp (M' := M_C_setting) 9 isC rfl l_C_274 C_C_setting (c_C_setting l p rj s w g q q2 sm co h 4 (by omega)) (emC ..) (Or.inl ⟨_, _, _, _, rfl, rfl⟩) rfl rfl rfl (Nat.le_of_ble_eq_true rfl) ⟨rfl, rfl, Nat.le_of_ble_eq_true rfl, Nat.le_of_ble_eq_true rfl⟩ ⟨Nat.zero_le _, Nat.zero_le _⟩ ?_
  refine Z_lmul 10 rfl ?_
  refine Z_ldc2 11 rfl k_C_242 (c := 3249) rfl ?_
  refine Z_lmul 12 rfl ?_
  refine Z_aload_n 13 rfl rfl rfl ?_
  refine Z_get 14 rfl f_C_53 rfl rfl ?_
  refine Z_getN 15 rfl f_C_192 rfl rfl ?_
  refine Z_lmul 16 rfl ?_
  refine Z_lret 17 rfl rfl ⟨Nat.le_refl _, Nat.le_refl _⟩ ?_
  exact ⟨rfl, rfl⟩
theorem c_C_forceHere (h : PV p) : Con l M_C_forceHere R_C_forceHere 0 0 false [.ref 0] (eC p rj s w g q q2 sm co) (zAl (frc p.s s) (fun m => m = eC p rj s w g q q2 sm co)) := by
  refine Con.of_Z (by decide) D_C_forceHere (Nat.le_of_ble_eq_true rfl) ?_
  refine Z_aload_n 0 rfl rfl rfl ?_
  refine Z_callVlp (M' := M_C_preloadHere) 1 isC rfl l_C_271 C_C_preloadHere (c_C_preloadHere l p rj s w g q q2 sm co h) (emC ..) (Or.inl ⟨_, _, _, _, rfl, rfl⟩) rfl rfl rfl (Nat.le_of_ble_eq_true rfl) ⟨rfl, rfl, Nat.le_of_ble_eq_true rfl, Nat.le_of_ble_eq_true rfl⟩ ⟨Nat.zero_le _, Nat.zero_le _⟩ ?_
  refine Z_aload_n 2 rfl rfl rfl ?_
  refine Z_callVlp (M' := M_C_springHere) 3 isC rfl l_C_265 C_C_springHere (c_C_springHere l p rj s w g q q2 sm co h) (emC ..) (Or.inl ⟨_, _, _, _, rfl, rfl⟩) rfl rfl rfl (Nat.le_of_ble_eq_true rfl) ⟨rfl, rfl, Nat.le_of_ble_eq_true rfl, Nat.le_of_ble_eq_true rfl⟩ ⟨Nat.zero_le _, Nat.zero_le _⟩ ?_
  refine Z_ladd 4 rfl ?_
  refine Z_aload_n 5 rfl rfl rfl ?_
  refine Z_callVlp (M' := M_C_inertiaHere) 6 isC rfl l_C_268 C_C_inertiaHere (c_C_inertiaHere l p rj s w g q q2 sm co h) (emC ..) (Or.inl ⟨_, _, _, _, rfl, rfl⟩) rfl rfl rfl (Nat.le_of_ble_eq_true rfl) ⟨rfl, rfl, Nat.le_of_ble_eq_true rfl, Nat.le_of_ble_eq_true rfl⟩ ⟨Nat.zero_le _, Nat.zero_le _⟩ ?_
  refine Z_ladd 7 rfl ?_
  refine Z_lret 8 rfl rfl ⟨Nat.le_refl _, Nat.le_refl _⟩ ?_
  exact ⟨rfl, rfl⟩
/-- bounds of those numbers -/
theorem pl_bd {t : TT} (h : TV t) {k u : Int} (hk : 0 ≤ k ∧ k < t.2.2.2) (hu : 0 ≤ u ∧ u ≤ t.2.1 k) : SBd (pl t k u) := by
  have h1 := h.1.1
  have hm := h.2.2 k hk.1 hk.2
  unfold mb at hm
  exact sd_bd (by omega) (by omega) (by omega) (by have := ah_bd h.1 (show k ≤ 12 by omega); omega) hu
theorem sb_bd {S : Int → Int} (hS : SB S) {s : SS} (hs : SBd s) : (-7781996851200000 ≤ rch S s ∧ rch S s ≤ 13822567833600000) ∧ (-8100000000000000 ≤ cur S s ∧ cur S s ≤ 14050000000000000) ∧ (0 ≤ prl S s ∧ prl S s ≤ 60460129382400000) ∧ (-770417688268800000 ≤ spr S s ∧ spr S s ≤ 770417688268800000) ∧ (-4051883250000000000 ≤ ine S s ∧ ine S s ≤ 4051883250000000000) := by
  unfold SB at hS
  unfold SBd at hs
  have a0 := mul_ab (x := S 0) (y := s.1) (A := 999) (B := 6046617600000) (by omega) (by omega)
  have a3 := mul_bd (x := S 3) (y := s.1) (A := 9999) (B := 6046617600000) (by omega) (by omega)
  have a2 := mul_ab (x := S 2) (y := lf s) (A := 99) (B := 7781996851200000) (by omega) (by omega)
  have a4 := mul_ab (x := S 4) (y := S 4) (A := 30) (B := 30) (by omega) (by omega)
  have a5 := mul_ab (x := S 1) (y := S 4) (A := 20) (B := 30) (by omega) (by omega)
  have a6 := mul_ab (x := S 1 * S 4) (y := S 4) (A := 600) (B := 30) (by omega) (by omega)
  have a7 := mul_ab (x := S 1 * S 4 * S 4 * 3249) (y := s.2.2.2.1) (A := 58482000) (B := 69284160000) (by omega) (by omega)
  have p0 := Int.mul_nonneg (show 0 ≤ S 0 by omega) (show 0 ≤ s.1 by omega)
  unfold cur rch prl spr ine
  omega
theorem frc_bd {S : Int → Int} (hS : SB S) {s : SS} (hs : SBd s) : -4900000000000000000 ≤ frc S s ∧ frc S s ≤ 4900000000000000000 := by
  have := sb_bd hS hs
  unfold frc
  omega
/-- a sample -/
theorem sd_g {k L r a u : Int} (hk : 0 ≤ k ∧ k ≤ 5) (hL : 1 ≤ L ∧ L ≤ 360) (hr : -99 ≤ r ∧ r ≤ 99) (hu : 0 ≤ u ∧ u ≤ L) : -(99 * (sd k L r a u).1) ≤ (sd k L r a u).2.1 ∧ (sd k L r a u).2.1 ≤ 99 * (sd k L r a u).1 := by
  have hc := cf_pos (k := k) hL.1
  have e1 := sp_over k L r a u hk
  have e2 := sp_gain k L r a u hk
  have b2 := shr_bd hk hL.1 hu
  have m := mul_ab hr (show -o5 L ≤ shr k u L ∧ shr k u L ≤ o5 L by omega)
  rw [e2, e1] at m
  have f1 : cf k L * (99 * (sd k L r a u).1 - (sd k L r a u).2.1) = 99 * (cf k L * (sd k L r a u).1) - cf k L * (sd k L r a u).2.1 := by grind
  have f2 : cf k L * (99 * (sd k L r a u).1 + (sd k L r a u).2.1) = 99 * (cf k L * (sd k L r a u).1) + cf k L * (sd k L r a u).2.1 := by grind
  constructor
  · rcases Int.lt_or_le (99 * (sd k L r a u).1 + (sd k L r a u).2.1) 0 with z | z
    · have := Int.mul_neg_of_pos_of_neg (show 0 < cf k L by omega) z
      omega
    · omega
  · rcases Int.lt_or_le (99 * (sd k L r a u).1 - (sd k L r a u).2.1) 0 with z | z
    · have := Int.mul_neg_of_pos_of_neg (show 0 < cf k L by omega) z
      omega
    · omega
theorem pl_g {t : TT} (h : TV t) {k u : Int} (hk : 0 ≤ k ∧ k < t.2.2.2) (hu : 0 ≤ u ∧ u ≤ t.2.1 k) : -(99 * (pl t k u).1) ≤ (pl t k u).2.1 ∧ (pl t k u).2.1 ≤ 99 * (pl t k u).1 := by
  have hm := h.2.2 k hk.1 hk.2
  unfold mb at hm
  exact sd_g (by omega) (by omega) (by omega) hu
theorem smp_bd {s : SS} (hs : SBd s) {x : Int} (hx : 1 ≤ x ∧ x ≤ 1000) : (0 < s.1 ∧ s.1 ≤ 4611686018427387903) ∧ inL (2 * x * s.2.1 + s.1) := by
  unfold SBd at hs
  have a1 := mul_ab (x := 2 * x) (y := s.2.1) (A := 2000) (B := 598615142400000) (by omega) (by omega)
  omega
theorem smp_b2 {s : SS} (hs : SBd s) (hg : -(99 * s.1) ≤ s.2.1 ∧ s.2.1 ≤ 99 * s.1) {x : Int} (hx : 1 ≤ x ∧ x ≤ 1000) : -1300000 ≤ smp s x ∧ smp s x ≤ 1300000 := by
  unfold SBd at hs
  have a0 := mul_ab (x := s.2.2.2.2) (y := x) (A := 1188) (B := 1000) (by omega) (by omega)
  have e1 : 2 * x * s.2.1 + s.1 ≤ 99001 * (2 * s.1) := by
    have := Int.mul_le_mul_of_nonneg_left hg.2 (show 0 ≤ 2 * x by omega)
    have e : 2 * x * (99 * s.1) = 198 * (x * s.1) := by grind
    have := Int.mul_le_mul_of_nonneg_right hx.2 (show 0 ≤ s.1 by omega)
    omega
  have e2 : -99001 * (2 * s.1) ≤ 2 * x * s.2.1 + s.1 := by
    have := Int.mul_le_mul_of_nonneg_left hg.1 (show 0 ≤ 2 * x by omega)
    have e : 2 * x * -(99 * s.1) = -(198 * (x * s.1)) := by grind
    have := Int.mul_le_mul_of_nonneg_right hx.2 (show 0 ≤ s.1 by omega)
    omega
  have d1 : -99001 ≤ (2 * x * s.2.1 + s.1) / (2 * s.1) := Int.le_ediv_of_mul_le (by omega) e2
  have d2 : (2 * x * s.2.1 + s.1) / (2 * s.1) ≤ 99001 := by
    have := Int.ediv_le_ediv (show 0 < 2 * s.1 by omega) e1
    rw [Int.mul_ediv_cancel _ (by omega)] at this
    exact this
  unfold smp
  omega
theorem c_C_sampleHere (h : PV p) (hs : SBd s) : Con l M_C_sampleHere R_C_sampleHere 0 0 false [.ref 0] (eC p rj s w g q q2 sm co) (zAl (smp s (p.s 5)) (fun m => m = eC p rj s w g q q2 sm co)) := by
  have hb := smp_bd hs h.2.1.2.2.2.2.2
  refine Con.of_Z (by decide) D_C_sampleHere (Nat.le_of_ble_eq_true rfl) ?_
  refine Z_aload_n 0 rfl rfl rfl ?_
  refine Z_get 1 rfl f_C_53 rfl rfl ?_
  refine Z_aload_n 2 rfl rfl rfl ?_
  refine Z_iconst 3 rfl ?_
  refine Z_callVlp (M' := M_C_setting) 4 isC rfl l_C_274 C_C_setting (c_C_setting l p rj s w g q q2 sm co h 5 (by omega)) (emC ..) (Or.inl ⟨_, _, _, _, rfl, rfl⟩) rfl rfl rfl (Nat.le_of_ble_eq_true rfl) ⟨rfl, rfl, Nat.le_of_ble_eq_true rfl, Nat.le_of_ble_eq_true rfl⟩ ⟨Nat.zero_le _, Nat.zero_le _⟩ ?_
  refine Z_callVlp (M' := M_S_sampled) 5 [20] rfl l_C_379 C_S_sampled (c_S_sampled l s (p.s 5) hb.1 hb.2) ⟨by decide, (zEL.c (Or.inl rfl) zEL.n)⟩ (Or.inl ⟨_, _, _, _, rfl, rfl⟩) rfl rfl rfl (Nat.le_of_ble_eq_true rfl) ⟨rfl, rfl, Nat.le_of_ble_eq_true rfl, Nat.le_of_ble_eq_true rfl⟩ ⟨Nat.zero_le _, Nat.zero_le _⟩ ?_
  refine Z_lret 6 rfl rfl ⟨Nat.le_refl _, Nat.le_refl _⟩ ?_
  exact ⟨rfl, rfl⟩
end C1
