/-! the model: cam -/
theorem Ag_tAp {t u : TT} (h : Ag t u) (h0 : 0 ≤ t.2.2.2) (k L r : Int) : Ag (tAp t k L r) (tAp u k L r) := by
  obtain ⟨h1, h2⟩ := h
  refine ⟨by show t.2.2.2 + 1 = u.2.2.2 + 1; omega, fun i i1 i2 => ?_⟩
  have i2' : i < t.2.2.2 + 1 := i2
  show uI t.1 t.2.2.2 k i = uI u.1 u.2.2.2 k i ∧ uI t.2.1 t.2.2.2 L i = uI u.2.1 u.2.2.2 L i ∧ uI t.2.2.1 t.2.2.2 r i = uI u.2.2.1 u.2.2.2 r i
  rw [← h1]
  by_cases e : i = t.2.2.2
  · rw [e, uI_s, uI_s, uI_s, uI_s, uI_s, uI_s]
    exact ⟨rfl, rfl, rfl⟩
  · rw [uI_n _ _ e, uI_n _ _ e, uI_n _ _ e, uI_n _ _ e, uI_n _ _ e, uI_n _ _ e]
    exact h2 i i1 (by omega)
theorem tp_c {b : Int → Int} {n : Int} : ∀ (f : Nat) (p : Int) (t u : TT), Ag t u → 0 ≤ t.2.2.2 → (tp b n f p t).1 = (tp b n f p u).1 ∧ (tp b n f p t).2.1 = (tp b n f p u).2.1 ∧ (tp b n f p t).2.2.1 = (tp b n f p u).2.2.1 ∧ Ag (tp b n f p t).2.2.2 (tp b n f p u).2.2.2 ∧ 0 ≤ (tp b n f p t).2.2.2.2.2.2 := by
  intro f
  induction f with
  | zero => intro p t u h h0; exact ⟨rfl, rfl, rfl, h, h0⟩
  | succ f ih =>
    intro p t u h h0
    unfold tp
    by_cases c1 : (PR b n p).1 = 0
    · rw [if_pos c1, if_pos c1]; exact ⟨rfl, rfl, rfl, h, h0⟩
    · rw [if_neg c1, if_neg c1]
      have ha := Ag_tAp h h0 (PR b n p).2.1 (PR b n p).2.2.1 (PR b n p).2.2.2.1
      have h9 : 0 ≤ (tAp t (PR b n p).2.1 (PR b n p).2.2.1 (PR b n p).2.2.2.1).2.2.2 := by show 0 ≤ t.2.2.2 + 1; omega
      by_cases c2 : (PR b n p).2.2.2.2 = n
      · rw [if_pos c2, if_pos c2]; exact ⟨rfl, rfl, rfl, ha, h9⟩
      · rw [if_neg c2, if_neg c2]
        by_cases c3 : bt b n (PR b n p).2.2.2.2 = 59
        · rw [if_pos c3, if_pos c3]; exact ih _ _ _ ha h9
        · rw [if_neg c3, if_neg c3]; exact ⟨rfl, rfl, rfl, ha, h9⟩
theorem tpI_c {b : Int → Int} {n p : Int} {t u : TT} (h : Ag t u) (h0 : 0 ≤ t.2.2.2) : (tpI b n p t).1 = (tpI b n p u).1 ∧ (tpI b n p t).2.1 = (tpI b n p u).2.1 ∧ (tpI b n p t).2.2.1 = (tpI b n p u).2.2.1 ∧ Ag (tpI b n p t).2.2.2 (tpI b n p u).2.2.2 ∧ 0 ≤ (tpI b n p t).2.2.2.2.2.2 := tp_c _ _ _ _ h h0
theorem IsUf_c {t u : TT} (h : Ag t u) {v : Int} (hv : IsUf t v) : IsUf u v := by
  obtain ⟨h1, h2⟩ := h
  have es : ∀ j, 0 ≤ j → j < t.2.2.2 → sI t.2.1 (j + 1) = sI u.2.1 (j + 1) := fun j j1 j2 => sI_c (fun i i1 i2 => (h2 i i1 (by omega)).2.1)
  rcases hv with ⟨z1, z2⟩ | ⟨z1, z2, z3, z4⟩
  · refine Or.inl ⟨z1, fun j j1 j2 => ?_⟩
    rw [← es j j1 (by omega)]
    exact z2 j j1 (by omega)
  · refine Or.inr ⟨z1, by omega, ?_, fun j j1 j2 => ?_⟩
    · rw [← es v z1 z2]; exact z3
    · rw [← es j j1 (by omega)]; exact z4 j j1 j2
def PMR (b : Int → Int) (n pla : Int) (cj : TT) (a f w : Int) (cj' : TT) : Prop := ((PR b n pla).1 ≠ 0 ∧ a = (PR b n pla).2.2.2.2 ∧ f = -1 ∧ cj' = tAp cj (PR b n pla).2.1 (PR b n pla).2.2.1 (PR b n pla).2.2.2.1) ∨ ((PR b n pla).1 = 0 ∧ f ≠ -1 ∧ f = (PR b n pla).2.1 ∧ w = (PR b n pla).2.2.1 ∧ cj' = cj)
/-- what the pieces read so far are -/
def CjB (cj : TT) : Prop := ∀ i, 0 ≤ i → i < cj.2.2.2 → mb (cj.1 i) (cj.2.1 i) (cj.2.2.1 i)
theorem CjB_ap {cj : TT} (h : CjB cj) {k L r : Int} (hm : mb k L r) (h0 : 0 ≤ cj.2.2.2) : CjB (tAp cj k L r) := by
  intro i i1 i2
  have i2' : i < cj.2.2.2 + 1 := i2
  show mb (uI cj.1 cj.2.2.2 k i) (uI cj.2.1 cj.2.2.2 L i) (uI cj.2.2.1 cj.2.2.2 r i)
  by_cases e : i = cj.2.2.2
  · rw [e, uI_s, uI_s, uI_s]; exact hm
  · rw [uI_n _ _ e, uI_n _ _ e, uI_n _ _ e]; exact h i i1 (by omega)
/-- what is known of a text read -/
def FIN (b : Int → Int) (n : Int) (c0 : TT) (f w : Int) (cj : TT) : Prop := (f = -1 ∧ tpI b n 0 c0 = (1, 0, 0, cj)) ∨ (f ≠ -1 ∧ (tpI b n 0 c0).1 = 0 ∧ (tpI b n 0 c0).2.1 = f ∧ (tpI b n 0 c0).2.2.1 = w)
section M14
variable (l : Launch) (he fa li sl be ov av bl : Int) (kw sm : Int → Int)
theorem pm_x {p : MP} {pla : Int} {cj : TT} {m : List zE} (h : PRM p he fa li sl be ov av bl kw sm pla cj m) : ∃ a f w cj', m = eM p he fa li sl be ov av bl kw sm a f w cj' ∧ PMR p.tb p.ts pla cj a f w cj' := by
  rcases h with ⟨h1, w, e⟩ | ⟨h1, h2, a, e⟩
  · exact ⟨_, _, _, _, e, Or.inl ⟨h1, rfl, rfl, rfl⟩⟩
  · exact ⟨_, _, _, _, e, Or.inr ⟨h1, h2, rfl, rfl, rfl⟩⟩
theorem lp_M_unfit (p : MP) (ma mf : Int) (cj : TT) (hn : 0 ≤ cj.2.2.2 ∧ cj.2.2.2 ≤ 120) (hB : CjB cj) : ∀ (d : Nat) (i mw : Int), 0 ≤ i → i ≤ cj.2.2.2 → cj.2.2.2 - i < d → (∀ j, 0 ≤ j → j < i → j ≠ 12 ∧ sI cj.2.1 (j + 1) ≤ 360) → Z (l, M_M_unfit, R_M_unfit, (0, 0), false, zAi (ufI cj) (fun m => ∃ w, m = eM p he fa li sl be ov av bl kw sm ma mf w cj ∧ (ufI cj ≠ -1 → w = if ufI cj = 12 then 6 else 7) ∧ IsUf cj (ufI cj))) 0 0 (eM p he fa li sl be ov av bl kw sm ma mf mw cj) 4 [(0, .ref 0), (1, .int (iI (sI cj.2.1 i))), (2, .int (iI i))] [] := by
  intro d
  induction d with
  | zero => intro i mw h2 h3 h4; omega
  | succ d ih =>
    intro i mw h2 h3 h4 h5
    have e := sI_s cj.2.1 h2
    have hb : i < cj.2.2.2 → 1 ≤ cj.2.1 i ∧ cj.2.1 i ≤ 360 := fun z => by
      have := hB i h2 z
      unfold mb at this
      omega
    have hs : i = 0 ∨ (0 < i ∧ sI cj.2.1 i ≤ 360) := by
      by_cases z : i = 0
      · exact Or.inl z
      · have := (h5 (i - 1) (by omega) (by omega)).2
        rw [show i - 1 + 1 = i by omega] at this
        exact Or.inr ⟨by omega, this⟩
    have hs0 : 0 ≤ sI cj.2.1 i := by
      have key : ∀ q : Nat, (q : Int) ≤ cj.2.2.2 → 0 ≤ sI cj.2.1 q := by
        intro q
        induction q with
        | zero => intro _; exact Int.le_refl 0
        | succ q ihq =>
          intro hq
          have := hB q (by omega) (by omega)
          unfold mb at this
          have e2 := sI_s cj.2.1 (show (0 : Int) ≤ q by omega)
          have := ihq (by omega)
          show 0 ≤ sI cj.2.1 ((q : Int) + 1)
          omega
      have := key i.toNat (by omega)
      rw [Int.toNat_of_nonneg h2] at this
      exact this
    have hz : i = 0 → sI cj.2.1 i = 0 := fun z => by rw [z]; rfl
    refine Z_iload_n 4 rfl rfl rfl ?_
    refine Z_aload_n 5 rfl rfl rfl ?_
    refine Z_get 6 rfl f_M_356 rfl rfl ?_
    refine Z_icmp_ge 7 rfl (tgt := 59) rfl (by omega) (by omega) (fun c9 => ?_) (fun c9 => ?_)
    · refine Z_iconst 33 rfl ?_
      refine Z_iret 34 rfl rfl ⟨Nat.le_refl _, Nat.le_refl _⟩ ?_
      have hU : IsUf cj (-1) := Or.inl ⟨rfl, fun j j1 j2 => h5 j j1 (by omega)⟩
      exact ⟨by rw [ufI_eq hU], _, rfl, fun z => absurd (ufI_eq hU) z, by rw [ufI_eq hU]; exact hU⟩
    · refine Z_iload_n 8 rfl rfl rfl ?_
      refine Z_aload_n 9 rfl rfl rfl ?_
      refine Z_get 10 rfl f_M_47 rfl rfl ?_
      refine Z_iload_n 11 rfl rfl rfl ?_
      refine Z_ia 12 rfl rfl (by omega) (by decide) ?_
      refine Z_iadd 13 rfl ?_
      refine Z_ci e.symm ?_
      refine Z_istore_n 14 rfl rfl (Nat.le_of_ble_eq_true rfl) (lv' := [(1, .int _), (0, .ref _), (2, .int _)]) rfl ?_
      refine Z_aload_n 15 rfl rfl rfl ?_
      refine Z_iload_n 16 rfl rfl rfl ?_
      refine Z_bipush 17 rfl rfl ?_
      refine Z_icmp_ne 18 rfl (tgt := 33) rfl (by omega) (by omega) (fun c25 => ?_) (fun c25 => ?_)
      · refine Z_bipush 21 rfl rfl ?_
        refine Z_ci (show _ = (if i = 12 then 6 else 7) by first | (rw [if_pos (by omega)] <;> rfl) | (rw [if_neg (by omega)] <;> rfl)) ?_
        refine Z_put 22 rfl f_M_324 rfl (Nat.le_of_ble_eq_true rfl) (fun _ => ⟨rfl, rfl⟩) (fs' := []) (mem' := eM p he fa li sl be ov av bl kw sm ma mf (if i = 12 then 6 else 7) cj) rfl ?_
        refine Z_iload_n 23 rfl rfl rfl ?_
        refine Z_bipush 24 rfl rfl ?_
        refine Z_icmp_eq 25 rfl (tgt := 51) rfl (by omega) (by omega) (fun c41 => ?_) (fun c41 => ?_)
        · refine Z_iload_n 29 rfl rfl rfl ?_
          refine Z_iret 30 rfl rfl ⟨Nat.le_refl _, Nat.le_refl _⟩ ?_
          have hU : IsUf cj i := Or.inr ⟨h2, by omega, by omega, h5⟩
          exact ⟨by rw [ufI_eq hU], _, rfl, fun _ => by rw [ufI_eq hU], by rw [ufI_eq hU]; exact hU⟩
        · refine Z_iload_n 26 rfl rfl rfl ?_
          refine Z_sipush 27 rfl rfl ?_
          refine Z_icmp_le 28 rfl (tgt := 53) rfl (by omega) (by omega) (fun c48 => ?_) (fun c48 => ?_)
          · refine Z_iinc 31 rfl rfl (Nat.le_of_ble_eq_true rfl) (lv' := [(2, .int _), (1, .int _), (0, .ref _)]) rfl ?_
            refine Z_goto 32 rfl (tgt := 4) rfl ?_
            refine Z_pick [0, 1, 2] (lv' := [(0, .ref _), (1, .int _), (2, .int _)]) rfl ?_
            exact ih (i + 1) _ (by omega) (by omega) (by omega) (fun j j1 j2 => by
              by_cases ej : j = i
              · rw [ej]; omega
              · exact h5 j j1 (by omega))
          · refine Z_iload_n 29 rfl rfl rfl ?_
            refine Z_iret 30 rfl rfl ⟨Nat.le_refl _, Nat.le_refl _⟩ ?_
            have hU : IsUf cj i := Or.inr ⟨h2, by omega, by omega, h5⟩
            exact ⟨by rw [ufI_eq hU], _, rfl, fun _ => by rw [ufI_eq hU], by rw [ufI_eq hU]; exact hU⟩
      · refine Z_bipush 19 rfl rfl ?_
        refine Z_goto 20 rfl (tgt := 35) rfl ?_
        refine Z_ci (show _ = (if i = 12 then 6 else 7) by first | (rw [if_pos (by omega)] <;> rfl) | (rw [if_neg (by omega)] <;> rfl)) ?_
        refine Z_put 22 rfl f_M_324 rfl (Nat.le_of_ble_eq_true rfl) (fun _ => ⟨rfl, rfl⟩) (fs' := []) (mem' := eM p he fa li sl be ov av bl kw sm ma mf (if i = 12 then 6 else 7) cj) rfl ?_
        refine Z_iload_n 23 rfl rfl rfl ?_
        refine Z_bipush 24 rfl rfl ?_
        refine Z_icmp_eq 25 rfl (tgt := 51) rfl (by omega) (by omega) (fun c41 => ?_) (fun c41 => ?_)
        · refine Z_iload_n 29 rfl rfl rfl ?_
          refine Z_iret 30 rfl rfl ⟨Nat.le_refl _, Nat.le_refl _⟩ ?_
          have hU : IsUf cj i := Or.inr ⟨h2, by omega, by omega, h5⟩
          exact ⟨by rw [ufI_eq hU], _, rfl, fun _ => by rw [ufI_eq hU], by rw [ufI_eq hU]; exact hU⟩
        · refine Z_iload_n 26 rfl rfl rfl ?_
          refine Z_sipush 27 rfl rfl ?_
          refine Z_icmp_le 28 rfl (tgt := 53) rfl (by omega) (by omega) (fun c48 => ?_) (fun c48 => ?_)
          · refine Z_iinc 31 rfl rfl (Nat.le_of_ble_eq_true rfl) (lv' := [(2, .int _), (1, .int _), (0, .ref _)]) rfl ?_
            refine Z_goto 32 rfl (tgt := 4) rfl ?_
            refine Z_pick [0, 1, 2] (lv' := [(0, .ref _), (1, .int _), (2, .int _)]) rfl ?_
            exact ih (i + 1) _ (by omega) (by omega) (by omega) (fun j j1 j2 => by
              by_cases ej : j = i
              · rw [ej]; omega
              · exact h5 j j1 (by omega))
          · refine Z_iload_n 29 rfl rfl rfl ?_
            refine Z_iret 30 rfl rfl ⟨Nat.le_refl _, Nat.le_refl _⟩ ?_
            have hU : IsUf cj i := Or.inr ⟨h2, by omega, by omega, h5⟩
            exact ⟨by rw [ufI_eq hU], _, rfl, fun _ => by rw [ufI_eq hU], by rw [ufI_eq hU]; exact hU⟩
theorem c_M_unfit (p : MP) (ma mf mw : Int) (cj : TT) (hn : 0 ≤ cj.2.2.2 ∧ cj.2.2.2 ≤ 120) (hB : CjB cj) : Con l M_M_unfit R_M_unfit 0 0 false [.ref 0] (eM p he fa li sl be ov av bl kw sm ma mf mw cj) (zAi (ufI cj) (fun m => ∃ w, m = eM p he fa li sl be ov av bl kw sm ma mf w cj ∧ (ufI cj ≠ -1 → w = if ufI cj = 12 then 6 else 7) ∧ IsUf cj (ufI cj))) := by
  refine Con.of_Z (by decide) D_M_unfit (Nat.le_of_ble_eq_true rfl) ?_
  refine Z_iconst 0 rfl ?_
  refine Z_istore_n 1 rfl rfl (Nat.le_of_ble_eq_true rfl) (lv' := [(1, .int _), (0, .ref _)]) rfl ?_
  refine Z_iconst 2 rfl ?_
  refine Z_istore_n 3 rfl rfl (Nat.le_of_ble_eq_true rfl) (lv' := [(2, .int _), (1, .int _), (0, .ref _)]) rfl ?_
  refine Z_pick [0, 1, 2] (lv' := [(0, .ref _), (1, .int _), (2, .int _)]) rfl ?_
  exact lp_M_unfit l he fa li sl be ov av bl kw sm p ma mf cj hn hB 121 0 mw (by omega) (by omega) (by omega) (fun j j1 j2 => by omega)
end M14
