/-! the model: cam -/
def tcM (t cj : TT) (k : Int) : TT := (cpI cj.1 t.1 k, cpI cj.2.1 t.2.1 k, cpI cj.2.2.1 t.2.2.1 k, cj.2.2.2)
theorem TV_tcM {t cj : TT} (h : TV t) (h0 : 0 ≤ cj.2.2.2) (hB : CjB cj) (hu : ufN cj) : cj.2.2.2 ≤ 12 ∧ TV (tcM t cj cj.2.2.2) := by
  have hn : cj.2.2.2 ≤ 12 := by
    rcases Int.lt_or_le 12 cj.2.2.2 with z | z
    · exact absurd rfl (hu 12 (by omega) z).1
    · exact z
  have hc : ∀ F G : Int → Int, ∀ i, 0 ≤ i → i < cj.2.2.2 → cpI F G cj.2.2.2 i = F i := fun F G i i1 i2 => by unfold cpI; rw [if_pos ⟨i1, i2⟩]
  have hd : ∀ F G : Int → Int, ∀ i, ¬ (0 ≤ i ∧ i < cj.2.2.2) → cpI F G cj.2.2.2 i = G i := fun F G i i1 => by unfold cpI; rw [if_neg i1]
  refine ⟨hn, ⟨⟨h0, hn⟩, fun i => ?_, fun i => ?_, fun i => ?_⟩, ?_, fun k k1 k2 => ?_⟩
  · show 0 ≤ cpI cj.1 t.1 cj.2.2.2 i ∧ cpI cj.1 t.1 cj.2.2.2 i ≤ 5
    by_cases z : 0 ≤ i ∧ i < cj.2.2.2
    · rw [hc _ _ i z.1 z.2]
      have := hB i z.1 z.2
      unfold mb at this
      omega
    · rw [hd _ _ i z]
      exact h.1.2.1 i
  · show 0 ≤ cpI cj.2.1 t.2.1 cj.2.2.2 i ∧ cpI cj.2.1 t.2.1 cj.2.2.2 i ≤ 360
    by_cases z : 0 ≤ i ∧ i < cj.2.2.2
    · rw [hc _ _ i z.1 z.2]
      have := hB i z.1 z.2
      unfold mb at this
      omega
    · rw [hd _ _ i z]
      exact h.1.2.2.1 i
  · show -99 ≤ cpI cj.2.2.1 t.2.2.1 cj.2.2.2 i ∧ cpI cj.2.2.1 t.2.2.1 cj.2.2.2 i ≤ 99
    by_cases z : 0 ≤ i ∧ i < cj.2.2.2
    · rw [hc _ _ i z.1 z.2]
      have := hB i z.1 z.2
      unfold mb at this
      omega
    · rw [hd _ _ i z]
      exact h.1.2.2.2 i
  · have e : tot (tcM t cj cj.2.2.2) = sI cj.2.1 cj.2.2.2 := sI_c (fun i i1 i2 => hc _ _ i i1 i2)
    rw [e]
    by_cases z : cj.2.2.2 = 0
    · rw [z]; exact (show (0 : Int) ≤ 360 by omega)
    · have := (hu (cj.2.2.2 - 1) (by omega) (by omega)).2
      rw [show cj.2.2.2 - 1 + 1 = cj.2.2.2 by omega] at this
      exact this
  · have k2' : k < cj.2.2.2 := k2
    show mb (cpI cj.1 t.1 cj.2.2.2 k) (cpI cj.2.1 t.2.1 cj.2.2.2 k) (cpI cj.2.2.1 t.2.2.1 cj.2.2.2 k)
    rw [hc _ _ k k1 k2', hc _ _ k k1 k2', hc _ _ k k1 k2']
    exact hB k k1 k2'
section M15
variable (l : Launch) (p : MP) (he fa li sl be ov av bl : Int) (kw sm : Int → Int)
theorem lpC_M_cam (ma mf mw u : Int) (cj : TT) (hn : 0 ≤ cj.2.2.2 ∧ cj.2.2.2 ≤ 12) (Q : List zE → Prop) (hQ : Q (eM (tcM p.t cj cj.2.2.2, p.2.1, p.2.2.1, 0, p.2.2.2.2) he fa li sl be ov av bl kw sm ma mf mw cj)) : ∀ (d : Nat) (k : Int), 0 ≤ k → k ≤ cj.2.2.2 → cj.2.2.2 - k < d → Z (l, M_M_cam, R_M_cam, (0, 0), false, zAi cj.2.2.2 Q) 0 0 (eM (tcM p.t cj k, p.2.1, p.2.2.1, 0, p.2.2.2.2) he fa li sl be ov av bl kw sm ma mf mw cj) 136 [(0, .ref 0), (1, .int (iI u)), (2, .int (iI k))] [] := by
  intro d
  induction d with
  | zero => intro k h2 h3 h4; omega
  | succ d ih =>
    intro k h2 h3 h4
    refine Z_iload_n 72 rfl rfl rfl ?_
    refine Z_aload_n 73 rfl rfl rfl ?_
    refine Z_get 74 rfl f_M_77 rfl rfl ?_
    refine Z_ci (show _ = cj.2.2.2 from rfl) ?_
    refine Z_icmp_ge 75 rfl (tgt := 186) rfl (by omega) (by omega) (fun c141 => ?_) (fun c141 => ?_)
    · refine Z_aload_n 102 rfl rfl rfl ?_
      refine Z_get 103 rfl f_M_77 rfl rfl ?_
      refine Z_iret 104 rfl rfl ⟨Nat.le_refl _, Nat.le_refl _⟩ ?_
      have ek : k = cj.2.2.2 := by omega
      rw [ek]
      exact ⟨rfl, hQ⟩
    · refine Z_aload_n 76 rfl rfl rfl ?_
      refine Z_get 77 rfl f_M_11 rfl rfl ?_
      refine Z_iload_n 78 rfl rfl rfl ?_
      refine Z_aload_n 79 rfl rfl rfl ?_
      refine Z_get 80 rfl f_M_44 rfl rfl ?_
      refine Z_iload_n 81 rfl rfl rfl ?_
      refine Z_ia 82 rfl rfl (by omega) (by decide) ?_
      refine Z_ias 83 rfl rfl (by omega) (by decide) (mem' := eM ((uI (cpI cj.1 p.t.1 k) k (cj.1 k), cpI cj.2.1 p.t.2.1 k, cpI cj.2.2.1 p.t.2.2.1 k, cj.2.2.2), p.2.1, p.2.2.1, 0, p.2.2.2.2) he fa li sl be ov av bl kw sm ma mf mw cj) rfl ?_
      refine Z_aload_n 84 rfl rfl rfl ?_
      refine Z_get 85 rfl f_M_15 rfl rfl ?_
      refine Z_iload_n 86 rfl rfl rfl ?_
      refine Z_aload_n 87 rfl rfl rfl ?_
      refine Z_get 88 rfl f_M_47 rfl rfl ?_
      refine Z_iload_n 89 rfl rfl rfl ?_
      refine Z_ia 90 rfl rfl (by omega) (by decide) ?_
      refine Z_ias 91 rfl rfl (by omega) (by decide) (mem' := eM ((uI (cpI cj.1 p.t.1 k) k (cj.1 k), uI (cpI cj.2.1 p.t.2.1 k) k (cj.2.1 k), cpI cj.2.2.1 p.t.2.2.1 k, cj.2.2.2), p.2.1, p.2.2.1, 0, p.2.2.2.2) he fa li sl be ov av bl kw sm ma mf mw cj) rfl ?_
      refine Z_aload_n 92 rfl rfl rfl ?_
      refine Z_get 93 rfl f_M_18 rfl rfl ?_
      refine Z_iload_n 94 rfl rfl rfl ?_
      refine Z_aload_n 95 rfl rfl rfl ?_
      refine Z_get 96 rfl f_M_50 rfl rfl ?_
      refine Z_iload_n 97 rfl rfl rfl ?_
      refine Z_ia 98 rfl rfl (by omega) (by decide) ?_
      refine Z_ias 99 rfl rfl (by omega) (by decide) (mem' := eM ((uI (cpI cj.1 p.t.1 k) k (cj.1 k), uI (cpI cj.2.1 p.t.2.1 k) k (cj.2.1 k), uI (cpI cj.2.2.1 p.t.2.2.1 k) k (cj.2.2.1 k), cj.2.2.2), p.2.1, p.2.2.1, 0, p.2.2.2.2) he fa li sl be ov av bl kw sm ma mf mw cj) rfl ?_
      refine Z_iinc 100 rfl rfl (Nat.le_of_ble_eq_true rfl) (lv' := [(2, .int _), (0, .ref _), (1, .int _)]) rfl ?_
      refine Z_goto 101 rfl (tgt := 136) rfl ?_
      refine Z_pick [0, 1, 2] (lv' := [(0, .ref _), (1, .int _), (2, .int _)]) rfl ?_
      rw [cpI_s _ _ h2, cpI_s _ _ h2, cpI_s _ _ h2]
      exact ih (k + 1) (by omega) (by omega) (by omega)
def CamM (m : List zE) : Prop := ∃ t', TV t' ∧ (camOk p.tb p.ts → Ag t' (tpI p.tb p.ts 0 cs0).2.2.2) ∧ (¬ camOk p.tb p.ts → t' = p.t) ∧ ∃ ma mf mw cj, m = eM (t', p.2.1, p.2.2.1, 0, (camF p.tb p.ts p.lc).2, p.2.2.2.2.2) he fa li sl be ov av bl kw sm ma mf mw cj
theorem lpF_M_cam (h : MV p) (a f w : Int) (cj : TT) (hf : inI f) (hn : 0 ≤ cj.2.2.2 ∧ cj.2.2.2 ≤ 120) (hB : CjB cj) (F1 : f ≠ -1 → (tpI p.tb p.ts 0 cs0).1 = 0 ∧ (tpI p.tb p.ts 0 cs0).2.1 = f ∧ (tpI p.tb p.ts 0 cs0).2.2.1 = w) (F2 : f = -1 → (tpI p.tb p.ts 0 cs0).1 ≠ 0 ∧ Ag cj (tpI p.tb p.ts 0 cs0).2.2.2) : Z (l, M_M_cam, R_M_cam, (0, 0), false, zAi (camF p.tb p.ts p.lc).1 (CamM p he fa li sl be ov av bl kw sm)) 0 0 (eM p he fa li sl be ov av bl kw sm a f w cj) 59 [(0, .ref 0)] [] := by
  refine Z_aload_n 30 rfl rfl rfl ?_
  refine Z_iconst 31 rfl ?_
  refine Z_put 32 rfl f_M_123 rfl (Nat.le_of_ble_eq_true rfl) (fun _ => ⟨rfl, rfl⟩) (fs' := []) (mem' := eM (p.1, p.2.1, p.2.2.1, 0, p.2.2.2.2) he fa li sl be ov av bl kw sm a f w cj) rfl ?_
  refine Z_aload_n 33 rfl rfl rfl ?_
  refine Z_get 34 rfl f_M_321 rfl rfl ?_
  refine Z_iconst 35 rfl ?_
  refine Z_icmp_ne 36 rfl (tgt := 79) rfl (by omega) (by omega) (fun c69 => ?_) (fun c69 => ?_)
  · refine Z_iconst 40 rfl ?_
    refine Z_istore_n 41 rfl rfl (Nat.le_of_ble_eq_true rfl) (lv' := [(1, .int _), (0, .ref _)]) rfl ?_
    refine Z_aload_n 42 rfl rfl rfl ?_
    refine Z_get 43 rfl f_M_321 rfl rfl ?_
    refine Z_iconst 44 rfl ?_
    refine Z_icmp_ne 45 rfl (tgt := 94) rfl (by omega) (by omega) (fun c86 => ?_) (fun c86 => ?_)
    · refine Z_aload_n 49 rfl rfl rfl ?_
      refine Z_aload_n 50 rfl rfl rfl ?_
      refine Z_get 51 rfl f_M_324 rfl rfl ?_
      refine Z_put 52 rfl f_M_40 rfl (Nat.le_of_ble_eq_true rfl) (fun _ => ⟨rfl, rfl⟩) (fs' := []) (mem' := eM (p.1, p.2.1, p.2.2.1, 0, w, p.2.2.2.2.2) he fa li sl be ov av bl kw sm a f w cj) rfl ?_
      refine Z_aload_n 53 rfl rfl rfl ?_
      refine Z_get 54 rfl f_M_321 rfl rfl ?_
      refine Z_iconst 55 rfl ?_
      refine Z_icmp_eq 56 rfl (tgt := 120) rfl (by omega) (by omega) (fun c107 => ?_) (fun c107 => ?_)
      · refine Z_sipush 62 rfl rfl ?_
        refine Z_iload_n 63 rfl rfl rfl ?_
        refine Z_isub 64 rfl ?_
        refine Z_iret 65 rfl rfl ⟨Nat.le_refl _, Nat.le_refl _⟩ ?_
        first
          | (exfalso; omega)
          | (have hf1 : f ≠ -1 := by omega
             obtain ⟨g1, g2, g3⟩ := F1 hf1
             have hF : camF p.tb p.ts p.lc = (-100 - f, w) := by unfold camF; rw [cif_t g1, g2, g3]
             exact ⟨by rw [hF], p.t, h.1, fun y => absurd g1 y.1, fun _ => rfl, _, _, _, _, by rw [hF] <;> rfl⟩)
          | (have hu1 : ufI cj ≠ -1 := by omega
             have hF : camF p.tb p.ts p.lc = (-300 - ufI cj, w) := by unfold camF; rw [cif_f g1, eU, cif_f (by omega), ← hw' hu1]
             exact ⟨by rw [hF], p.t, h.1, fun y => by have := y.2; omega, fun _ => rfl, _, _, _, _, by rw [hF] <;> rfl⟩)
      · refine Z_bipush 57 rfl rfl ?_
        refine Z_aload_n 58 rfl rfl rfl ?_
        refine Z_get 59 rfl f_M_321 rfl rfl ?_
        refine Z_isub 60 rfl ?_
        refine Z_goto 61 rfl (tgt := 125) rfl ?_
        refine Z_iret 65 rfl rfl ⟨Nat.le_refl _, Nat.le_refl _⟩ ?_
        first
          | (exfalso; omega)
          | (have hf1 : f ≠ -1 := by omega
             obtain ⟨g1, g2, g3⟩ := F1 hf1
             have hF : camF p.tb p.ts p.lc = (-100 - f, w) := by unfold camF; rw [cif_t g1, g2, g3]
             exact ⟨by rw [hF], p.t, h.1, fun y => absurd g1 y.1, fun _ => rfl, _, _, _, _, by rw [hF] <;> rfl⟩)
          | (have hu1 : ufI cj ≠ -1 := by omega
             have hF : camF p.tb p.ts p.lc = (-300 - ufI cj, w) := by unfold camF; rw [cif_f g1, eU, cif_f (by omega), ← hw' hu1]
             exact ⟨by rw [hF], p.t, h.1, fun y => by have := y.2; omega, fun _ => rfl, _, _, _, _, by rw [hF] <;> rfl⟩)
    · refine Z_iload_n 46 rfl rfl rfl ?_
      refine Z_iconst 47 rfl ?_
      refine Z_icmp_eq 48 rfl (tgt := 126) rfl (by omega) (by omega) (fun c91 => ?_) (fun c91 => ?_)
      · refine Z_aload_n 66 rfl rfl rfl ?_
        refine Z_aload_n 67 rfl rfl rfl ?_
        refine Z_get 68 rfl f_M_356 rfl rfl ?_
        refine Z_put 69 rfl f_M_77 rfl (Nat.le_of_ble_eq_true rfl) (fun _ => ⟨rfl, rfl⟩) (fs' := []) (mem' := eM ((p.1.1, p.1.2.1, p.1.2.2.1, cj.2.2.2), p.2.1, p.2.2.1, 0, p.2.2.2.2) he fa li sl be ov av bl kw sm a f w cj) rfl ?_
        refine Z_iconst 70 rfl ?_
        refine Z_istore_n 71 rfl rfl (Nat.le_of_ble_eq_true rfl) (lv' := [(2, .int _), (1, .int _), (0, .ref _)]) rfl ?_
        refine Z_pick [0, 1, 2] (lv' := [(0, .ref _), (1, .int _), (2, .int _)]) rfl ?_
        first
          | (exfalso; omega)
          | (have hu1 : ufI cj = -1 := by omega
             have hN : ufN cj := by
               rcases hU with z | z
               · exact z.2
               · have := z.1
                 omega
             obtain ⟨n12, hT⟩ := TV_tcM h.1 hn.1 hB hN
             have hF : camF p.tb p.ts p.lc = (cj.2.2.2, p.lc) := by unfold camF; rw [cif_f g1, eU, cif_t (by omega), ← g2.1]
             have hz := lpC_M_cam l p he fa li sl be ov av bl kw sm a f w (ufI cj) cj ⟨hn.1, n12⟩ (CamM p he fa li sl be ov av bl kw sm) ⟨tcM p.t cj cj.2.2.2, hT, fun _ => ⟨g2.1, fun i i1 i2 => by
               have hi : i < cj.2.2.2 := i2
               have hc : ∀ F G : Int → Int, cpI F G cj.2.2.2 i = F i := fun F G => by unfold cpI; rw [if_pos ⟨i1, hi⟩]
               show cpI cj.1 p.t.1 cj.2.2.2 i = _ ∧ cpI cj.2.1 p.t.2.1 cj.2.2.2 i = _ ∧ cpI cj.2.2.1 p.t.2.2.1 cj.2.2.2 i = _
               rw [hc, hc, hc]
               exact g2.2 i i1 hi⟩, fun y => absurd ⟨g1, by omega⟩ y, _, _, _, _, by rw [hF] <;> rfl⟩ 13 0 (by omega) (by omega) (by omega)
             rw [show tcM p.t cj 0 = (p.t.1, p.t.2.1, p.t.2.2.1, cj.2.2.2) by unfold tcM; rw [cpI_0, cpI_0, cpI_0]] at hz
             rw [hF]
             exact hz)
      · refine Z_aload_n 49 rfl rfl rfl ?_
        refine Z_aload_n 50 rfl rfl rfl ?_
        refine Z_get 51 rfl f_M_324 rfl rfl ?_
        refine Z_put 52 rfl f_M_40 rfl (Nat.le_of_ble_eq_true rfl) (fun _ => ⟨rfl, rfl⟩) (fs' := []) (mem' := eM (p.1, p.2.1, p.2.2.1, 0, w, p.2.2.2.2.2) he fa li sl be ov av bl kw sm a f w cj) rfl ?_
        refine Z_aload_n 53 rfl rfl rfl ?_
        refine Z_get 54 rfl f_M_321 rfl rfl ?_
        refine Z_iconst 55 rfl ?_
        refine Z_icmp_eq 56 rfl (tgt := 120) rfl (by omega) (by omega) (fun c107 => ?_) (fun c107 => ?_)
        · refine Z_sipush 62 rfl rfl ?_
          refine Z_iload_n 63 rfl rfl rfl ?_
          refine Z_isub 64 rfl ?_
          refine Z_iret 65 rfl rfl ⟨Nat.le_refl _, Nat.le_refl _⟩ ?_
          first
            | (exfalso; omega)
            | (have hf1 : f ≠ -1 := by omega
               obtain ⟨g1, g2, g3⟩ := F1 hf1
               have hF : camF p.tb p.ts p.lc = (-100 - f, w) := by unfold camF; rw [cif_t g1, g2, g3]
               exact ⟨by rw [hF], p.t, h.1, fun y => absurd g1 y.1, fun _ => rfl, _, _, _, _, by rw [hF] <;> rfl⟩)
            | (have hu1 : ufI cj ≠ -1 := by omega
               have hF : camF p.tb p.ts p.lc = (-300 - ufI cj, w) := by unfold camF; rw [cif_f g1, eU, cif_f (by omega), ← hw' hu1]
               exact ⟨by rw [hF], p.t, h.1, fun y => by have := y.2; omega, fun _ => rfl, _, _, _, _, by rw [hF] <;> rfl⟩)
        · refine Z_bipush 57 rfl rfl ?_
          refine Z_aload_n 58 rfl rfl rfl ?_
          refine Z_get 59 rfl f_M_321 rfl rfl ?_
          refine Z_isub 60 rfl ?_
          refine Z_goto 61 rfl (tgt := 125) rfl ?_
          refine Z_iret 65 rfl rfl ⟨Nat.le_refl _, Nat.le_refl _⟩ ?_
          first
            | (exfalso; omega)
            | (have hf1 : f ≠ -1 := by omega
               obtain ⟨g1, g2, g3⟩ := F1 hf1
               have hF : camF p.tb p.ts p.lc = (-100 - f, w) := by unfold camF; rw [cif_t g1, g2, g3]
               exact ⟨by rw [hF], p.t, h.1, fun y => absurd g1 y.1, fun _ => rfl, _, _, _, _, by rw [hF] <;> rfl⟩)
            | (have hu1 : ufI cj ≠ -1 := by omega
               have hF : camF p.tb p.ts p.lc = (-300 - ufI cj, w) := by unfold camF; rw [cif_f g1, eU, cif_f (by omega), ← hw' hu1]
               exact ⟨by rw [hF], p.t, h.1, fun y => by have := y.2; omega, fun _ => rfl, _, _, _, _, by rw [hF] <;> rfl⟩)
  · refine Z_aload_n 37 rfl rfl rfl ?_
    refine Z_callVi (M' := M_M_unfit) 38 isM rfl l_M_362 C_M_unfit (c_M_unfit l he fa li sl be ov av bl kw sm (p.1, p.2.1, p.2.2.1, 0, p.2.2.2.2) a f w cj hn hB) (emM ..) (Or.inl ⟨_, _, _, _, rfl, rfl⟩) rfl rfl rfl (Nat.le_of_ble_eq_true rfl) ⟨rfl, rfl, Nat.le_of_ble_eq_true rfl, Nat.le_of_ble_eq_true rfl⟩ ⟨Nat.zero_le _, Nat.zero_le _⟩ (fun out hq => ?_)
    obtain ⟨w, rfl, hw', hU⟩ := hq
    refine Z_mem (mgM ..) ?_
    obtain ⟨g1, g2⟩ := F2 (by omega)
    have eU := ufI_eq (IsUf_c g2 hU)
    have hub : inI (ufI cj) ∧ -1 ≤ ufI cj := by
      rcases hU with z | z
      · omega
      · have := z.1
        have := z.2.1
        omega
    refine Z_goto 39 rfl (tgt := 80) rfl ?_
    refine Z_istore_n 41 rfl rfl (Nat.le_of_ble_eq_true rfl) (lv' := [(1, .int _), (0, .ref _)]) rfl ?_
    refine Z_aload_n 42 rfl rfl rfl ?_
    refine Z_get 43 rfl f_M_321 rfl rfl ?_
    refine Z_iconst 44 rfl ?_
    refine Z_icmp_ne 45 rfl (tgt := 94) rfl (by omega) (by omega) (fun c86 => ?_) (fun c86 => ?_)
    · refine Z_aload_n 49 rfl rfl rfl ?_
      refine Z_aload_n 50 rfl rfl rfl ?_
      refine Z_get 51 rfl f_M_324 rfl rfl ?_
      refine Z_put 52 rfl f_M_40 rfl (Nat.le_of_ble_eq_true rfl) (fun _ => ⟨rfl, rfl⟩) (fs' := []) (mem' := eM (p.1, p.2.1, p.2.2.1, 0, w, p.2.2.2.2.2) he fa li sl be ov av bl kw sm a f w cj) rfl ?_
      refine Z_aload_n 53 rfl rfl rfl ?_
      refine Z_get 54 rfl f_M_321 rfl rfl ?_
      refine Z_iconst 55 rfl ?_
      refine Z_icmp_eq 56 rfl (tgt := 120) rfl (by omega) (by omega) (fun c107 => ?_) (fun c107 => ?_)
      · refine Z_sipush 62 rfl rfl ?_
        refine Z_iload_n 63 rfl rfl rfl ?_
        refine Z_isub 64 rfl ?_
        refine Z_iret 65 rfl rfl ⟨Nat.le_refl _, Nat.le_refl _⟩ ?_
        first
          | (exfalso; omega)
          | (have hf1 : f ≠ -1 := by omega
             obtain ⟨g1, g2, g3⟩ := F1 hf1
             have hF : camF p.tb p.ts p.lc = (-100 - f, w) := by unfold camF; rw [cif_t g1, g2, g3]
             exact ⟨by rw [hF], p.t, h.1, fun y => absurd g1 y.1, fun _ => rfl, _, _, _, _, by rw [hF] <;> rfl⟩)
          | (have hu1 : ufI cj ≠ -1 := by omega
             have hF : camF p.tb p.ts p.lc = (-300 - ufI cj, w) := by unfold camF; rw [cif_f g1, eU, cif_f (by omega), ← hw' hu1]
             exact ⟨by rw [hF], p.t, h.1, fun y => by have := y.2; omega, fun _ => rfl, _, _, _, _, by rw [hF] <;> rfl⟩)
      · refine Z_bipush 57 rfl rfl ?_
        refine Z_aload_n 58 rfl rfl rfl ?_
        refine Z_get 59 rfl f_M_321 rfl rfl ?_
        refine Z_isub 60 rfl ?_
        refine Z_goto 61 rfl (tgt := 125) rfl ?_
        refine Z_iret 65 rfl rfl ⟨Nat.le_refl _, Nat.le_refl _⟩ ?_
        first
          | (exfalso; omega)
          | (have hf1 : f ≠ -1 := by omega
             obtain ⟨g1, g2, g3⟩ := F1 hf1
             have hF : camF p.tb p.ts p.lc = (-100 - f, w) := by unfold camF; rw [cif_t g1, g2, g3]
             exact ⟨by rw [hF], p.t, h.1, fun y => absurd g1 y.1, fun _ => rfl, _, _, _, _, by rw [hF] <;> rfl⟩)
          | (have hu1 : ufI cj ≠ -1 := by omega
             have hF : camF p.tb p.ts p.lc = (-300 - ufI cj, w) := by unfold camF; rw [cif_f g1, eU, cif_f (by omega), ← hw' hu1]
             exact ⟨by rw [hF], p.t, h.1, fun y => by have := y.2; omega, fun _ => rfl, _, _, _, _, by rw [hF] <;> rfl⟩)
    · refine Z_iload_n 46 rfl rfl rfl ?_
      refine Z_iconst 47 rfl ?_
      refine Z_icmp_eq 48 rfl (tgt := 126) rfl (by omega) (by omega) (fun c91 => ?_) (fun c91 => ?_)
      · refine Z_aload_n 66 rfl rfl rfl ?_
        refine Z_aload_n 67 rfl rfl rfl ?_
        refine Z_get 68 rfl f_M_356 rfl rfl ?_
        refine Z_put 69 rfl f_M_77 rfl (Nat.le_of_ble_eq_true rfl) (fun _ => ⟨rfl, rfl⟩) (fs' := []) (mem' := eM ((p.1.1, p.1.2.1, p.1.2.2.1, cj.2.2.2), p.2.1, p.2.2.1, 0, p.2.2.2.2) he fa li sl be ov av bl kw sm a f w cj) rfl ?_
        refine Z_iconst 70 rfl ?_
        refine Z_istore_n 71 rfl rfl (Nat.le_of_ble_eq_true rfl) (lv' := [(2, .int _), (1, .int _), (0, .ref _)]) rfl ?_
        refine Z_pick [0, 1, 2] (lv' := [(0, .ref _), (1, .int _), (2, .int _)]) rfl ?_
        first
          | (exfalso; omega)
          | (have hu1 : ufI cj = -1 := by omega
             have hN : ufN cj := by
               rcases hU with z | z
               · exact z.2
               · have := z.1
                 omega
             obtain ⟨n12, hT⟩ := TV_tcM h.1 hn.1 hB hN
             have hF : camF p.tb p.ts p.lc = (cj.2.2.2, p.lc) := by unfold camF; rw [cif_f g1, eU, cif_t (by omega), ← g2.1]
             have hz := lpC_M_cam l p he fa li sl be ov av bl kw sm a f w (ufI cj) cj ⟨hn.1, n12⟩ (CamM p he fa li sl be ov av bl kw sm) ⟨tcM p.t cj cj.2.2.2, hT, fun _ => ⟨g2.1, fun i i1 i2 => by
               have hi : i < cj.2.2.2 := i2
               have hc : ∀ F G : Int → Int, cpI F G cj.2.2.2 i = F i := fun F G => by unfold cpI; rw [if_pos ⟨i1, hi⟩]
               show cpI cj.1 p.t.1 cj.2.2.2 i = _ ∧ cpI cj.2.1 p.t.2.1 cj.2.2.2 i = _ ∧ cpI cj.2.2.1 p.t.2.2.1 cj.2.2.2 i = _
               rw [hc, hc, hc]
               exact g2.2 i i1 hi⟩, fun y => absurd ⟨g1, by omega⟩ y, _, _, _, _, by rw [hF] <;> rfl⟩ 13 0 (by omega) (by omega) (by omega)
             rw [show tcM p.t cj 0 = (p.t.1, p.t.2.1, p.t.2.2.1, cj.2.2.2) by unfold tcM; rw [cpI_0, cpI_0, cpI_0]] at hz
             rw [hF]
             exact hz)
      · refine Z_aload_n 49 rfl rfl rfl ?_
        refine Z_aload_n 50 rfl rfl rfl ?_
        refine Z_get 51 rfl f_M_324 rfl rfl ?_
        refine Z_put 52 rfl f_M_40 rfl (Nat.le_of_ble_eq_true rfl) (fun _ => ⟨rfl, rfl⟩) (fs' := []) (mem' := eM (p.1, p.2.1, p.2.2.1, 0, w, p.2.2.2.2.2) he fa li sl be ov av bl kw sm a f w cj) rfl ?_
        refine Z_aload_n 53 rfl rfl rfl ?_
        refine Z_get 54 rfl f_M_321 rfl rfl ?_
        refine Z_iconst 55 rfl ?_
        refine Z_icmp_eq 56 rfl (tgt := 120) rfl (by omega) (by omega) (fun c107 => ?_) (fun c107 => ?_)
        · refine Z_sipush 62 rfl rfl ?_
          refine Z_iload_n 63 rfl rfl rfl ?_
          refine Z_isub 64 rfl ?_
          refine Z_iret 65 rfl rfl ⟨Nat.le_refl _, Nat.le_refl _⟩ ?_
          first
            | (exfalso; omega)
            | (have hf1 : f ≠ -1 := by omega
               obtain ⟨g1, g2, g3⟩ := F1 hf1
               have hF : camF p.tb p.ts p.lc = (-100 - f, w) := by unfold camF; rw [cif_t g1, g2, g3]
               exact ⟨by rw [hF], p.t, h.1, fun y => absurd g1 y.1, fun _ => rfl, _, _, _, _, by rw [hF] <;> rfl⟩)
            | (have hu1 : ufI cj ≠ -1 := by omega
               have hF : camF p.tb p.ts p.lc = (-300 - ufI cj, w) := by unfold camF; rw [cif_f g1, eU, cif_f (by omega), ← hw' hu1]
               exact ⟨by rw [hF], p.t, h.1, fun y => by have := y.2; omega, fun _ => rfl, _, _, _, _, by rw [hF] <;> rfl⟩)
        · refine Z_bipush 57 rfl rfl ?_
          refine Z_aload_n 58 rfl rfl rfl ?_
          refine Z_get 59 rfl f_M_321 rfl rfl ?_
          refine Z_isub 60 rfl ?_
          refine Z_goto 61 rfl (tgt := 125) rfl ?_
          refine Z_iret 65 rfl rfl ⟨Nat.le_refl _, Nat.le_refl _⟩ ?_
          first
            | (exfalso; omega)
            | (have hf1 : f ≠ -1 := by omega
               obtain ⟨g1, g2, g3⟩ := F1 hf1
               have hF : camF p.tb p.ts p.lc = (-100 - f, w) := by unfold camF; rw [cif_t g1, g2, g3]
               exact ⟨by rw [hF], p.t, h.1, fun y => absurd g1 y.1, fun _ => rfl, _, _, _, _, by rw [hF] <;> rfl⟩)
            | (have hu1 : ufI cj ≠ -1 := by omega
               have hF : camF p.tb p.ts p.lc = (-300 - ufI cj, w) := by unfold camF; rw [cif_f g1, eU, cif_f (by omega), ← hw' hu1]
               exact ⟨by rw [hF], p.t, h.1, fun y => by have := y.2; omega, fun _ => rfl, _, _, _, _, by rw [hF] <;> rfl⟩)
theorem lp19_M_cam (h : MV p) (a f w : Int) (cj : TT) (hf : inI f) (hf1 : f ≠ -1) (hn : 0 ≤ cj.2.2.2 ∧ cj.2.2.2 ≤ 120) (hB : CjB cj) (F1 : f ≠ -1 → (tpI p.tb p.ts 0 cs0).1 = 0 ∧ (tpI p.tb p.ts 0 cs0).2.1 = f ∧ (tpI p.tb p.ts 0 cs0).2.2.1 = w) : Z (l, M_M_cam, R_M_cam, (0, 0), false, zAi (camF p.tb p.ts p.lc).1 (CamM p he fa li sl be ov av bl kw sm)) 0 0 (eM p he fa li sl be ov av bl kw sm a f w cj) 19 [(0, .ref 0)] [] := by
  refine Z_aload_n 11 rfl rfl rfl ?_
  refine Z_get 12 rfl f_M_321 rfl rfl ?_
  refine Z_iconst 13 rfl ?_
  refine Z_icmp_ne 14 rfl (tgt := 59) rfl (by omega) (by omega) (fun c24 => ?_) (fun c24 => ?_)
  rotate_left
  · exfalso; omega
  refine Z_pick [0] (lv' := [(0, .ref _)]) rfl ?_
  exact lpF_M_cam l p he fa li sl be ov av bl kw sm h a f w cj hf hn hB F1 (fun z => absurd z hf1)
theorem PR_in {b : Int → Int} {n p : Int} (hp : 0 ≤ p ∧ p ≤ n) (hn : n ≤ 120) (h : (PR b n p).1 = 0) : -1 ≤ (PR b n p).2.1 ∧ (PR b n p).2.1 ≤ 120 := by
  have hE := wE_is b hp.2
  have hE1 := hE.1
  have hE2 := IsE_le hE hp.2
  have hlt : ∀ x y, bt b n x = y → 0 ≤ y → x < n := fun x y z zy => by
    unfold bt at z
    split at z
    · assumption
    · omega
  unfold PR at h ⊢
  by_cases h1 : kd2 b n p = -1
  · rw [if_pos h1]; unfold fl; dsimp only; omega
  · rw [if_neg h1] at h ⊢
    unfold PR3 at h ⊢
    by_cases h2 : bt b n (wE b n p) = 32
    · have hl := hlt _ _ h2 (by omega)
      have hb := fg3_bd b (show wE b n p + 1 ≤ n by omega)
      rw [if_pos h2] at h ⊢
      by_cases h3 : (fg b n 3 (wE b n p + 1) 0).1 < 1 ∨ 360 < (fg b n 3 (wE b n p + 1) 0).1
      · rw [if_pos h3]; unfold fl; dsimp only; omega
      · rw [if_neg h3] at h ⊢
        unfold PR4 at h ⊢
        by_cases h4 : kd2 b n p = 0
        · rw [if_pos h4] at h
          exact absurd h (show (1 : Int) ≠ 0 by omega)
        · rw [if_neg h4] at h ⊢
          by_cases h5 : bt b n (fg b n 3 (wE b n p + 1) 0).2 = 32
          · have hl2 := hlt _ _ h5 (by omega)
            rw [if_pos h5] at h ⊢
            unfold PR5 at h ⊢
            by_cases h6 : rsV b n ((fg b n 3 (wE b n p + 1) 0).2 + 1) = 0
            · rw [if_pos h6]; unfold fl; dsimp only; omega
            · rw [if_neg h6] at h
              exact absurd h (show (1 : Int) ≠ 0 by omega)
          · rw [if_neg h5]; unfold fl; dsimp only; omega
    · rw [if_neg h2]; unfold fl; dsimp only; omega
theorem lpL_M_cam (h : MV p) (c0 : TT) (hc0 : Ag c0 cs0) : ∀ (d : Nat) (pla : Int) (cj : TT) (a f w : Int) (cj' : TT), (0 ≤ pla ∧ pla ≤ p.ts) → p.ts - pla < d → (0 ≤ cj.2.2.2 ∧ cj.2.2.2 ≤ pla) → CjB cj → tpI p.tb p.ts pla cj = tpI p.tb p.ts 0 c0 → PMR p.tb p.ts pla cj a f w cj' → Z (l, M_M_cam, R_M_cam, (0, 0), false, zAi (camF p.tb p.ts p.lc).1 (CamM p he fa li sl be ov av bl kw sm)) 0 0 (eM p he fa li sl be ov av bl kw sm a f w cj') 19 [(0, .ref 0)] [] := by
  have hts := h.2.2.2.2.2.1
  have hcc := tpI_c (b := p.tb) (n := p.ts) (p := 0) hc0 (show 0 ≤ c0.2.2.2 by have : c0.2.2.2 = 0 := hc0.1; omega)
  intro d
  induction d with
  | zero => intro pla cj a f w cj' h1 h2; omega
  | succ d ih =>
    intro pla cj a f w cj' h1 h2 h3 h4 h5 h6
    rcases h6 with ⟨g1, g2, g3, g4⟩ | ⟨g1, g2, g3, g4, g5⟩
    · have ok := PR_ok h1.2 g1
      have hB := CjB_ap h4 ok.1 h3.1
      rw [← g4] at hB
      have hn' : 0 ≤ cj'.2.2.2 ∧ cj'.2.2.2 ≤ (PR p.tb p.ts pla).2.2.2.2 := by
        rw [g4]
        show 0 ≤ cj.2.2.2 + 1 ∧ cj.2.2.2 + 1 ≤ _
        omega
      have hbv := bt_bd h.2.2.2.2.1 p.ts a
      rw [g3]
      refine Z_aload_n 11 rfl rfl rfl ?_
      refine Z_get 12 rfl f_M_321 rfl rfl ?_
      refine Z_iconst 13 rfl ?_
      refine Z_icmp_ne 14 rfl (tgt := 59) rfl (by omega) (by omega) (fun c24 => ?_) (fun c24 => ?_)
      · exfalso; omega
      refine Z_aload_n 15 rfl rfl rfl ?_
      refine Z_get 16 rfl f_M_327 rfl rfl ?_
      refine Z_aload_n 17 rfl rfl rfl ?_
      refine Z_get 18 rfl f_M_123 rfl rfl ?_
      refine Z_icmp_ge 19 rfl (tgt := 59) rfl (by omega) (by omega) (fun c35 => ?_) (fun c35 => ?_)
      · refine Z_pick [0] (lv' := [(0, .ref _)]) rfl ?_
        have t1 := tpI_1 (cs := cj) g1 (show (PR p.tb p.ts pla).2.2.2.2 = p.ts by omega)
        rw [h5, ← g4] at t1
        rw [t1] at hcc
        exact lpF_M_cam l p he fa li sl be ov av bl kw sm h a (-1) w cj' (by omega) (by omega) hB (fun z => absurd rfl z) (fun _ => ⟨by rw [← hcc.1]; exact (show (1 : Int) ≠ 0 by omega), hcc.2.2.2.1⟩)
      · refine Z_aload_n 20 rfl rfl rfl ?_
        refine Z_bipush 21 rfl rfl ?_
        refine Z_callVv (M' := M_M_takes) 22 isM rfl l_M_349 C_M_takes (c_M_takes l p he fa li sl be ov av bl kw sm h 59 a (-1) w cj' (by omega) (by omega) (by omega)) (emM ..) (Or.inl ⟨_, _, _, _, rfl, rfl⟩) rfl rfl rfl (Nat.le_of_ble_eq_true rfl) ⟨rfl, rfl, Nat.le_of_ble_eq_true rfl, Nat.le_of_ble_eq_true rfl⟩ ⟨Nat.zero_le _, Nat.zero_le _⟩ (fun out hq => ?_)
        obtain ⟨a1, f1, w1, rfl, hT⟩ := tk_x p he fa li sl be ov av bl kw sm hq -- := hq
        refine Z_mem (mgM ..) ?_
        have hT' := hT
        unfold TKR at hT'
        have hf1 : inI f1 := by rcases hT' with z | z | z <;> omega
        refine Z_aload_n 23 rfl rfl rfl ?_
        refine Z_get 24 rfl f_M_321 rfl rfl ?_
        refine Z_iconst 25 rfl ?_
        refine Z_icmp_ne 26 rfl (tgt := 19) rfl (by omega) (by omega) (fun c49 => ?_) (fun c49 => ?_)
        · refine Z_pick [0] (lv' := [(0, .ref _)]) rfl ?_
          first
            | (have t3 := tpI_3 (cs := cj) h1.2 g1 (show (PR p.tb p.ts pla).2.2.2.2 ≠ p.ts by omega) (by rw [← g2]; exact k2)
               rw [h5, ← g4, ← g2, ← k3] at t3
               exact ih a1 cj' a2 f2 w2 cj2 (by omega) (by omega) (by omega) hB t3.symm hP)
            | (obtain ⟨k1, k2, k3, k4, k5⟩ := (hT'.resolve_left (fun z => by omega)).resolve_left (fun z => by omega)
               have t2 := tpI_2 (cs := cj) g1 (show (PR p.tb p.ts pla).2.2.2.2 ≠ p.ts by omega) (by rw [← g2]; exact k2)
               rw [h5] at t2
               rw [t2] at hcc
               exact lp19_M_cam l p he fa li sl be ov av bl kw sm h a1 f1 w1 cj' hf1 (by omega) (by omega) hB (fun _ => ⟨hcc.1.symm, hcc.2.1.symm.trans (show (PR p.tb p.ts pla).2.2.2.2 = f1 by omega), hcc.2.2.1.symm.trans (show (4 : Int) = w1 by rw [k5, if_neg (by omega)])⟩))
        · refine Z_aload_n 27 rfl rfl rfl ?_
          obtain ⟨k1, k2, k3, k4, k5⟩ := (hT'.resolve_left (fun z => by omega)).resolve_right (fun z => by omega)
          rw [k4]
          refine Z_callVv (M' := M_M_pieceRead) 28 isM rfl l_M_359 C_M_pieceRead (c_M_pieceRead l p he fa li sl be ov av bl kw sm h a1 w1 cj' (by omega) (by omega)) (emM ..) (Or.inl ⟨_, _, _, _, rfl, rfl⟩) rfl rfl rfl (Nat.le_of_ble_eq_true rfl) ⟨rfl, rfl, Nat.le_of_ble_eq_true rfl, Nat.le_of_ble_eq_true rfl⟩ ⟨Nat.zero_le _, Nat.zero_le _⟩ (fun out hq => ?_)
          obtain ⟨a2, f2, w2, cj2, rfl, hP⟩ := pm_x he fa li sl be ov av bl kw sm hq -- := hq
          refine Z_mem (mgM ..) ?_
          refine Z_goto 29 rfl (tgt := 19) rfl ?_
          refine Z_pick [0] (lv' := [(0, .ref _)]) rfl ?_
          first
            | (have t3 := tpI_3 (cs := cj) h1.2 g1 (show (PR p.tb p.ts pla).2.2.2.2 ≠ p.ts by omega) (by rw [← g2]; exact k2)
               rw [h5, ← g4, ← g2, ← k3] at t3
               exact ih a1 cj' a2 f2 w2 cj2 (by omega) (by omega) (by omega) hB t3.symm hP)
            | (obtain ⟨k1, k2, k3, k4, k5⟩ := (hT'.resolve_left (fun z => by omega)).resolve_left (fun z => by omega)
               have t2 := tpI_2 (cs := cj) g1 (show (PR p.tb p.ts pla).2.2.2.2 ≠ p.ts by omega) (by rw [← g2]; exact k2)
               rw [h5] at t2
               rw [t2] at hcc
               exact lp19_M_cam l p he fa li sl be ov av bl kw sm h a1 f1 w1 cj' hf1 (by omega) (by omega) hB (fun _ => ⟨hcc.1.symm, hcc.2.1.symm.trans (show (PR p.tb p.ts pla).2.2.2.2 = f1 by omega), hcc.2.2.1.symm.trans (show (4 : Int) = w1 by rw [k5, if_neg (by omega)])⟩))
    · have t0 := tpI_0 (cs := cj) g1
      rw [h5] at t0
      rw [t0] at hcc
      have hin := PR_in h1 hts.2 g1
      exact lp19_M_cam l p he fa li sl be ov av bl kw sm h a f w cj' (by omega) g2 (by rw [g5]; omega) (by rw [g5]; exact h4) (fun _ => ⟨hcc.1.symm, by rw [← hcc.2.1, g3], by rw [← hcc.2.2.1, g4]⟩)
theorem c_M_cam (h : MV p) (ma mf mw : Int) (cj : TT) : Con l M_M_cam R_M_cam 0 0 false [.ref 0] (eM p he fa li sl be ov av bl kw sm ma mf mw cj) (zAi (camF p.tb p.ts p.lc).1 (CamM p he fa li sl be ov av bl kw sm)) := by
  have hts := h.2.2.2.2.2.1
  refine Con.of_Z (by decide) D_M_cam (Nat.le_of_ble_eq_true rfl) ?_
  refine Z_aload_n 0 rfl rfl rfl ?_
  refine Z_iconst 1 rfl ?_
  refine Z_put 2 rfl f_M_327 rfl (Nat.le_of_ble_eq_true rfl) (fun _ => ⟨rfl, rfl⟩) (fs' := []) (mem' := eM p he fa li sl be ov av bl kw sm 0 mf mw cj) rfl ?_
  refine Z_aload_n 3 rfl rfl rfl ?_
  refine Z_iconst 4 rfl ?_
  refine Z_put 5 rfl f_M_321 rfl (Nat.le_of_ble_eq_true rfl) (fun _ => ⟨rfl, rfl⟩) (fs' := []) (mem' := eM p he fa li sl be ov av bl kw sm 0 (-1) mw cj) rfl ?_
  refine Z_aload_n 6 rfl rfl rfl ?_
  refine Z_iconst 7 rfl ?_
  refine Z_put 8 rfl f_M_356 rfl (Nat.le_of_ble_eq_true rfl) (fun _ => ⟨rfl, rfl⟩) (fs' := []) (mem' := eM p he fa li sl be ov av bl kw sm 0 (-1) mw (cj.1, cj.2.1, cj.2.2.1, 0)) rfl ?_
  refine Z_aload_n 9 rfl rfl rfl ?_
  refine Z_callVv (M' := M_M_pieceRead) 10 isM rfl l_M_359 C_M_pieceRead (c_M_pieceRead l p he fa li sl be ov av bl kw sm h 0 mw (cj.1, cj.2.1, cj.2.2.1, 0) (by omega) (show (0 : Int) ≤ 0 ∧ (0 : Int) < 120 by omega)) (emM ..) (Or.inl ⟨_, _, _, _, rfl, rfl⟩) rfl rfl rfl (Nat.le_of_ble_eq_true rfl) ⟨rfl, rfl, Nat.le_of_ble_eq_true rfl, Nat.le_of_ble_eq_true rfl⟩ ⟨Nat.zero_le _, Nat.zero_le _⟩ (fun out hq => ?_)
  obtain ⟨a2, f2, w2, cj2, rfl, hP⟩ := pm_x he fa li sl be ov av bl kw sm hq -- := hq
  refine Z_mem (mgM ..) ?_
  refine Z_pick [0] (lv' := [(0, .ref _)]) rfl ?_
  exact lpL_M_cam l p he fa li sl be ov av bl kw sm h (cj.1, cj.2.1, cj.2.2.1, 0) ⟨rfl, fun i i1 i2 => by have : i < 0 := i2; omega⟩ 122 0 (cj.1, cj.2.1, cj.2.2.1, 0) a2 f2 w2 cj2 (by omega) (by omega) (show (0 : Int) ≤ 0 ∧ (0 : Int) ≤ 0 by omega) (fun i i1 i2 => by have : i < 0 := i2; omega) rfl hP
end M15
