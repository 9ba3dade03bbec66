/-! what both sides answer: choices by a proposition, the number that a property tells, all places of a walk -/
noncomputable def cif {α : Type} (p : Prop) (a b : α) : α := @ite α p (Classical.propDecidable p) a b
theorem cif_t {α : Type} {p : Prop} {a b : α} (h : p) : cif p a b = a := by unfold cif; exact if_pos h
theorem cif_f {α : Type} {p : Prop} {a b : α} (h : ¬ p) : cif p a b = b := by unfold cif; exact if_neg h
noncomputable def theI (P : Int → Prop) : Int := @Classical.epsilon Int inferInstance P
theorem theI_eq {P : Int → Prop} {v : Int} (h : P v) (hu : ∀ x, P x → x = v) : theI P = v := hu _ (Classical.epsilon_spec (p := P) ⟨v, h⟩)
/-- the least, the greatest of those that are so; -5 -/
def IsLst (P : Int → Prop) (v : Int) : Prop := (P v ∧ ∀ x, P x → v ≤ x) ∨ (v = -5 ∧ ∀ x, ¬ P x)
def IsGst (P : Int → Prop) (v : Int) : Prop := (P v ∧ ∀ x, P x → x ≤ v) ∨ (v = -5 ∧ ∀ x, ¬ P x)
theorem IsLst_un {P : Int → Prop} {v v' : Int} (h : IsLst P v) (h' : IsLst P v') : v = v' := by
  rcases h with ⟨h1, h2⟩ | ⟨h1, h2⟩ <;> rcases h' with ⟨h3, h4⟩ | ⟨h3, h4⟩
  · have := h2 v' h3
    have := h4 v h1
    omega
  · exact absurd h1 (h4 v)
  · exact absurd h3 (h2 v')
  · omega
theorem IsGst_un {P : Int → Prop} {v v' : Int} (h : IsGst P v) (h' : IsGst P v') : v = v' := by
  rcases h with ⟨h1, h2⟩ | ⟨h1, h2⟩ <;> rcases h' with ⟨h3, h4⟩ | ⟨h3, h4⟩
  · have := h2 v' h3
    have := h4 v h1
    omega
  · exact absurd h1 (h4 v)
  · exact absurd h3 (h2 v')
  · omega
noncomputable def lstA (P : Int → Prop) : Int := theI (IsLst P)
noncomputable def gstA (P : Int → Prop) : Int := theI (IsGst P)
theorem lstA_eq {P : Int → Prop} {v : Int} (h : IsLst P v) : lstA P = v := theI_eq h (fun x hx => IsLst_un hx h)
theorem gstA_eq {P : Int → Prop} {v : Int} (h : IsGst P v) : gstA P = v := theI_eq h (fun x hx => IsGst_un hx h)
theorem lst_is {r : RR} {P : Int → Prop} (h : ∀ x, InR r x ↔ P x) : IsLst P (lst r) := by
  unfold lst
  by_cases hz : InR r r.1
  · rw [if_pos hz]
    exact Or.inl ⟨(h _).mp hz, fun x hx => ((h x).mpr hx).2.1⟩
  · rw [if_neg hz]
    refine Or.inr ⟨rfl, fun x hx => hz ?_⟩
    have := (h x).mpr hx
    exact ⟨this.1, Int.le_refl _, Int.le_trans this.2.1 this.2.2⟩
/-- all that there is to be seen: an angle, a piece, how far of it -/
def Vis (t : TT) (a k u : Int) : Prop :=
  (0 ≤ k ∧ k < t.2.2.2 ∧ 0 ≤ u ∧ u ≤ t.2.1 k ∧ a = bg t k + u) ∨ (clo t ∧ 0 < t.2.2.2 ∧ ((a = 0 ∧ k = t.2.2.2 - 1 ∧ u = t.2.1 (t.2.2.2 - 1)) ∨ (a = tot t ∧ k = 0 ∧ u = 0)))
theorem TV_L {t : TT} (h : TV t) {k : Int} (h0 : 0 ≤ k) (h1 : k < t.2.2.2) : 1 ≤ t.2.1 k ∧ t.2.1 k ≤ 360 := (h.2.2 k h0 h1).2.1
theorem Vis_At {t : TT} (h : TV t) {a k u : Int} : Vis t a k u ↔ ∃ sd, At t a sd k u := by
  constructor
  · rintro (⟨h1, h2, h3, h4, h5⟩ | ⟨h1, h2, h3⟩)
    · have hl := TV_L h h1 h2
      by_cases hu : 0 < u
      · exact ⟨0, Or.inl ⟨h1, h2, h5, Or.inl ⟨rfl, hu, h4⟩⟩⟩
      · exact ⟨1, Or.inl ⟨h1, h2, h5, Or.inr ⟨rfl, h3, by omega⟩⟩⟩
    · rcases h3 with h3 | h3
      · exact ⟨0, Or.inr ⟨h1, h2, Or.inl ⟨rfl, h3⟩⟩⟩
      · exact ⟨1, Or.inr ⟨h1, h2, Or.inr ⟨rfl, h3⟩⟩⟩
  · rintro ⟨sd, ⟨h1, h2, h3, h4⟩ | ⟨h1, h2, h3⟩⟩
    · exact Or.inl ⟨h1, h2, by omega, by omega, h3⟩
    · rcases h3 with h3 | h3
      · exact Or.inr ⟨h1, h2, Or.inl h3.2⟩
      · exact Or.inr ⟨h1, h2, Or.inr h3.2⟩
theorem Vis_in {t : TT} (h : TV t) {a k u : Int} (hV : Vis t a k u) : (0 ≤ k ∧ k < t.2.2.2) ∧ (0 ≤ u ∧ u ≤ t.2.1 k) ∧ (0 ≤ a ∧ a ≤ tot t) := by
  obtain ⟨sd, hA⟩ := (Vis_At h).mp hV
  have := At_in h hA
  exact ⟨⟨this.1.1, this.1.2.1⟩, this.2.1, this.2.2.1⟩
/-- what a walk has seen so far -/
def Dn (t : TT) (w : WW) (a k u : Int) : Prop :=
  (0 ≤ w.2.1 ∧ w.2.2.2.2.2 = 1 ∧ a = 0 ∧ k = t.2.2.2 - 1 ∧ u = t.2.1 (t.2.2.2 - 1))
  ∨ (0 ≤ k ∧ k < t.2.2.2 ∧ 0 ≤ u ∧ u ≤ t.2.1 k ∧ a = bg t k + u ∧ (k < w.2.1 ∨ (k = w.2.1 ∧ u < w.2.2.2.2.1)))
  ∨ (w.2.1 = t.2.2.2 + 1 ∧ a = tot t ∧ k = 0 ∧ u = 0)
theorem Dn_0 {t : TT} (h : TV t) {a k u : Int} : ¬ Dn t (wk0 t) a k u := by
  have h1 := h.1.1
  unfold Dn wk0
  by_cases hc : clo t
  · rw [bI_t hc]
    dsimp only
    omega
  · rw [bI_f hc]
    dsimp only
    omega
theorem Dn_end {t : TT} {w : WW} {i : Int} (h : TV t) (hJ : Jw t w i) (hm : ¬ mo t w) {a k u : Int} : Dn t w a k u ↔ Vis t a k u := by
  have h1 := h.1.1
  obtain ⟨hc, hJ⟩ := hJ
  unfold mo at hm
  have e : tot t = bg t t.2.2.2 := rfl
  unfold Dn Vis
  rcases hc with ⟨c1, c2, c3⟩ | ⟨c1, c2⟩
  · have e1 : w.2.1 = t.2.2.2 + 1 := by
      rcases hJ with hx | hx | hx | hx <;> omega
    constructor
    · rintro (hx | hx | hx)
      · exact Or.inr ⟨c2, c3, Or.inl hx.2.2⟩
      · exact Or.inl ⟨hx.1, hx.2.1, hx.2.2.1, hx.2.2.2.1, hx.2.2.2.2.1⟩
      · exact Or.inr ⟨c2, c3, Or.inr hx.2⟩
    · rintro (hx | ⟨-, -, hx | hx⟩)
      · exact Or.inr (Or.inl ⟨hx.1, hx.2.1, hx.2.2.1, hx.2.2.2.1, hx.2.2.2.2, Or.inl (by omega)⟩)
      · exact Or.inl ⟨by omega, c1, hx⟩
      · exact Or.inr (Or.inr ⟨e1, hx⟩)
  · have e1 : w.2.1 = t.2.2.2 := by
      rcases hJ with hx | hx | hx | hx <;> omega
    constructor
    · rintro (hx | hx | hx)
      · omega
      · exact Or.inl ⟨hx.1, hx.2.1, hx.2.2.1, hx.2.2.2.1, hx.2.2.2.2.1⟩
      · omega
    · rintro (hx | ⟨hx, -⟩)
      · exact Or.inr (Or.inl ⟨hx.1, hx.2.1, hx.2.2.1, hx.2.2.2.1, hx.2.2.2.2, Or.inl (by omega)⟩)
      · exact absurd hx c2
theorem nx_1 {t : TT} {w : WW} (h : w.2.1 < 0) : nx t w = (w.1, 0, w.2.2.1, w.2.2.2.1, w.2.2.2.2.1, w.2.2.2.2.2) := by
  unfold nx
  rw [if_pos h]
theorem nx_2 {t : TT} {w : WW} (h : 0 ≤ w.2.1) (h2 : w.2.1 < t.2.2.2) : nx t w = stp1 (w.2.2.1 + w.2.2.2.2.1, w.2.1, w.2.2.1, w.2.2.2.1, w.2.2.2.2.1, w.2.2.2.2.2) (t.2.1 w.2.1) (t.2.2.1 w.2.1) := by
  unfold nx
  rw [if_neg (by omega), if_pos h2]
theorem nx_3 {t : TT} {w : WW} (h : 0 ≤ w.2.1) (h2 : ¬ w.2.1 < t.2.2.2) (h3 : w.2.2.2.2.2 = 1 ∧ w.2.1 ≤ t.2.2.2) : nx t w = (w.1, w.2.1 + 1, w.2.2.1, w.2.2.2.1, w.2.2.2.2.1, w.2.2.2.2.2) := by
  unfold nx
  rw [if_neg (by omega), if_neg h2, if_pos h3]
theorem nsp_1 {t : TT} {w : WW} {s : SS} (h : w.2.1 < 0) : nsp t w s = sd (t.1 (t.2.2.2 - 1)) (t.2.1 (t.2.2.2 - 1)) (t.2.2.1 (t.2.2.2 - 1)) (-t.2.2.1 (t.2.2.2 - 1)) (t.2.1 (t.2.2.2 - 1)) := by
  unfold nsp
  rw [if_pos h]
theorem nsp_2 {t : TT} {w : WW} {s : SS} (h : 0 ≤ w.2.1) (h2 : w.2.1 < t.2.2.2) : nsp t w s = sd (t.1 w.2.1) (t.2.1 w.2.1) (t.2.2.1 w.2.1) w.2.2.2.1 w.2.2.2.2.1 := by
  unfold nsp
  rw [if_neg (by omega), if_pos h2]
theorem nsp_3 {t : TT} {w : WW} {s : SS} (h : 0 ≤ w.2.1) (h2 : ¬ w.2.1 < t.2.2.2) (h3 : w.2.2.2.2.2 = 1 ∧ w.2.1 ≤ t.2.2.2) : nsp t w s = sd (t.1 0) (t.2.1 0) (t.2.2.1 0) 0 0 := by
  unfold nsp
  rw [if_neg (by omega), if_neg h2, if_pos h3]
theorem Dn_le {t : TT} {w : WW} (h : TV t) (hi : w.2.1 ≤ t.2.2.2) (hu : 0 ≤ w.2.2.2.2.1) (hi0 : 0 ≤ w.2.1) {a k u : Int} (hD : Dn t w a k u) : a ≤ bg t w.2.1 + w.2.2.2.2.1 := by
  have b0 := bg_mono h.1 (Int.le_refl 0) hi0
  rw [bg_0] at b0
  rcases hD with hx | hx | hx
  · omega
  · rcases hx.2.2.2.2.2 with hy | hy
    · have b1 := bg_mono h.1 (show 0 ≤ k + 1 by omega) (show k + 1 ≤ w.2.1 by omega)
      rw [bg_s t hx.1] at b1
      omega
    · rw [← hy.1]
      omega
  · omega
theorem wk_step {t : TT} {w : WW} {i : Int} (h : TV t) (hJ : Jw t w i) (hm : mo t w) (s : SS) : ∃ kk uu, Vis t (nx t w).1 kk uu ∧ nsp t w s = pl t kk uu ∧ (∀ a k u, Dn t (nx t w) a k u ↔ (Dn t w a k u ∨ (a = (nx t w).1 ∧ k = kk ∧ u = uu))) ∧ ∀ a k u, Dn t w a k u → a ≤ (nx t w).1 := by
  have h1 := h.1.1
  obtain ⟨hc, hJ⟩ := hJ
  unfold mo at hm
  have e0 : tot t = bg t t.2.2.2 := rfl
  rcases hJ with hx | hx | hx | hx
  · have hcl : clo t ∧ 0 < t.2.2.2 := by
      rcases hc with hc | hc
      · exact hc.2
      · exact absurd (hx.2.1.symm.trans hc.1) (by omega)
    refine ⟨t.2.2.2 - 1, t.2.1 (t.2.2.2 - 1), ?_, ?_, ?_, ?_⟩
    · rw [nx_1 (by omega)]
      exact Or.inr ⟨hcl.1, hcl.2, Or.inl ⟨hx.2.2.1, rfl, rfl⟩⟩
    · rw [nsp_1 (by omega)]
      have e1 := ah_s t (show 0 ≤ t.2.2.2 - 1 by omega)
      rw [show t.2.2.2 - 1 + 1 = t.2.2.2 by omega, hcl.1.2] at e1
      unfold pl
      rw [show ah t (t.2.2.2 - 1) = -t.2.2.1 (t.2.2.2 - 1) by omega]
    · intro a k u
      rw [nx_1 (by omega)]
      unfold Dn
      dsimp only
      omega
    · intro a k u hD
      exfalso
      unfold Dn at hD
      omega
  · refine ⟨w.2.1, w.2.2.2.2.1, ?_, ?_, ?_, ?_⟩
    · rw [nx_2 (by omega) (by omega)]
      have e1 : (stp1 (w.2.2.1 + w.2.2.2.2.1, w.2.1, w.2.2.1, w.2.2.2.1, w.2.2.2.2.1, w.2.2.2.2.2) (t.2.1 w.2.1) (t.2.2.1 w.2.1)).1 = w.2.2.1 + w.2.2.2.2.1 := by
        unfold stp1
        split <;> rfl
      rw [e1]
      exact Or.inl ⟨hx.1, hx.2.1, hx.2.2.2.2.1, hx.2.2.2.2.2.1, by omega⟩
    · rw [nsp_2 (by omega) (by omega)]
      unfold pl
      rw [hx.2.2.2.1]
    · intro a k u
      rw [nx_2 (by omega) (by omega)]
      have hk : k = w.2.1 → bg t k = bg t w.2.1 ∧ t.2.1 k = t.2.1 w.2.1 := fun z => by rw [z]; exact ⟨rfl, rfl⟩
      unfold stp1
      split
      · unfold Dn
        dsimp only at *
        omega
      · unfold Dn
        dsimp only at *
        omega
    · intro a k u hD
      have hl := Dn_le h (by omega) hx.2.2.2.2.1 hx.1 hD
      rw [nx_2 (by omega) (by omega)]
      have e1 : (stp1 (w.2.2.1 + w.2.2.2.2.1, w.2.1, w.2.2.1, w.2.2.2.1, w.2.2.2.2.1, w.2.2.2.2.2) (t.2.1 w.2.1) (t.2.2.1 w.2.1)).1 = w.2.2.1 + w.2.2.2.2.1 := by
        unfold stp1
        split <;> rfl
      rw [e1]
      omega
  · have hcl : clo t ∧ 0 < t.2.2.2 := by
      rcases hc with hc | hc
      · exact hc.2
      · omega
    refine ⟨0, 0, ?_, ?_, ?_, ?_⟩
    · rw [nx_3 (by omega) (by omega) (by omega)]
      exact Or.inr ⟨hcl.1, hcl.2, Or.inr ⟨hx.2.2.2.2.1, rfl, rfl⟩⟩
    · rw [nsp_3 (by omega) (by omega) (by omega)]
      rfl
    · intro a k u
      rw [nx_3 (by omega) (by omega) (by omega)]
      unfold Dn
      dsimp only
      omega
    · intro a k u hD
      have hl := Dn_le h (by omega) (by omega) (by omega) hD
      rw [nx_3 (by omega) (by omega) (by omega)]
      dsimp only
      rw [hx.1, hx.2.2.2.1] at hl
      omega
  · exfalso
    omega
