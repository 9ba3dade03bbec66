/-! the model: samples, how far lines are off -/
theorem smp_n {k L r a u g : Int} (hk : 0 ≤ k ∧ k ≤ 5) (hL : 1 ≤ L ∧ L ≤ 360) : a * g + (2 * (r * shr k u L * g) + o5 L) / (2 * o5 L) = smp (sd k L r a u) g := by
  have hc := cf_pos (k := k) hL.1
  have e1 := sp_over k L r a u hk
  have e2 := sp_gain k L r a u hk
  unfold smp
  rw [e2, e1, sd_base, show 2 * (cf k L * (sd k L r a u).2.1 * g) + cf k L * (sd k L r a u).1 = cf k L * (2 * g * (sd k L r a u).2.1 + (sd k L r a u).1) by grind, show 2 * (cf k L * (sd k L r a u).1) = cf k L * (2 * (sd k L r a u).1) by grind, Int.mul_ediv_mul_of_pos _ _ (by omega)]
theorem sV_at {t : TT} (h : TV t) (S : Int → Int) {a k u : Int} (hA : At t a (si a) k u) : sV t S a = smp (pl t k u) (S 5) := atV_t h hA _
section M8
variable (l : Launch) (p : MP) (kw : Int → Int) (ma mf mw : Int) (cj : TT)
theorem c_M_nearest (a b : Int) (h : inL (2 * a + b)) (hb : 0 < b ∧ inL (2 * b)) : Con l M_M_nearest R_M_nearest 0 0 false [.long (lI a), .long (lI b)] [] (zAl ((2 * a + b) / (2 * b)) (fun m => m = [])) := by
  refine Con.of_Z (by decide) D_M_nearest (Nat.le_of_ble_eq_true rfl) ?_
  refine Z_ldc2 0 rfl k_M_108 (c := 2) rfl ?_
  refine Z_lload_n 1 rfl rfl rfl ?_
  refine Z_lmul 2 rfl ?_
  refine Z_lload_n 3 rfl rfl rfl ?_
  refine Z_ladd 4 rfl ?_
  refine Z_ldc2 5 rfl k_M_108 (c := 2) rfl ?_
  refine Z_lload_n 6 rfl rfl rfl ?_
  refine Z_lmul 7 rfl ?_
  refine Z_callSlp (M' := M_J9_floorDiv) 8 [] rfl l_M_248 C_J9_floorDiv (c_floorDiv l (2 * a + b) (2 * b) h hb.2 (by omega)) ⟨List.nodup_nil, zEL.n⟩ rfl rfl rfl (Nat.le_of_ble_eq_true rfl) ⟨rfl, rfl, Nat.le_of_ble_eq_true rfl, Nat.le_of_ble_eq_true rfl⟩ ⟨Nat.zero_le _, Nat.zero_le _⟩ ?_
  refine Z_lret 9 rfl rfl ⟨Nat.le_refl _, Nat.le_refl _⟩ ?_
  exact ⟨rfl, rfl⟩
theorem c_M_sampleOf (h : MV p) (j u kd r he fa li sl be ov av bl : Int) (sm : Int → Int) (hj : 0 ≤ j ∧ j < p.t.2.2.2) (hu : 0 ≤ u ∧ u ≤ p.t.2.1 j) (hk : 0 ≤ kd ∧ kd ≤ 5) (hr : -99 ≤ r ∧ r ≤ 99) : Con l M_M_sampleOf R_M_sampleOf 0 0 false [.ref 0, .int (iI j), .int (iI u), .int (iI kd), .int (iI r)] (eM p he fa li sl be ov av bl kw sm ma mf mw cj) (zAl (smp (sd kd (p.t.2.1 j) r (ah p.t j) u) (p.s 5)) (fun m => m = eM p he fa li sl be ov av bl kw sm ma mf mw cj)) := by
  have h1 := h.1.1.1
  have hL := TV_L h.1 hj.1 hj.2
  have hS := h.2.1
  unfold SB at hS
  have h5 := o5_bd hL
  have b2 := shr_bd hk hL.1 hu
  have m1 := mul_ab (x := r) (y := shr kd u (p.t.2.1 j)) (A := 99) (B := 6046617600000) hr (by omega)
  have m2 := mul_ab (x := r * shr kd u (p.t.2.1 j)) (y := p.s 5) (A := 598615142400000) (B := 1000) (by omega) (by omega)
  refine Con.of_Z (by decide) D_M_sampleOf (Nat.le_of_ble_eq_true rfl) ?_
  refine Z_aload_n 0 rfl rfl rfl ?_
  refine Z_get 1 rfl f_M_15 rfl rfl ?_
  refine Z_iload_n 2 rfl rfl rfl ?_
  refine Z_ia 3 rfl rfl (by omega) (by decide) ?_
  refine Z_istore 4 rfl (Nat.le_of_ble_eq_true rfl) (lv' := [(5, .int _), (0, .ref _), (1, .int _), (2, .int _), (3, .int _), (4, .int _)]) rfl ?_
  refine Z_aload_n 5 rfl rfl rfl ?_
  refine Z_iload_n 6 rfl rfl rfl ?_
  refine Z_callVip (M' := M_M_ahead) 7 isM rfl l_M_92 C_M_ahead (c_M_ahead l p he fa li sl be ov av bl kw sm ma mf mw cj j (by omega)) (emM ..) (Or.inl ⟨_, _, _, _, rfl, rfl⟩) rfl rfl rfl (Nat.le_of_ble_eq_true rfl) ⟨rfl, rfl, Nat.le_of_ble_eq_true rfl, Nat.le_of_ble_eq_true rfl⟩ ⟨Nat.zero_le _, Nat.zero_le _⟩ ?_
  refine Z_i2l 8 rfl (by have hz := ah_bd h.1.1 (show j ≤ 12 by omega); unfold ah at hz; omega) ?_
  refine Z_aload_n 9 rfl rfl rfl ?_
  refine Z_get 10 rfl f_M_21 rfl rfl ?_
  refine Z_iconst 11 rfl ?_
  refine Z_ia 12 rfl rfl (by omega) (by decide) ?_
  refine Z_i2l 13 rfl (by omega) ?_
  refine Z_lmul 14 rfl ?_
  refine Z_iload 15 rfl rfl ?_
  refine Z_i2l 16 rfl (by omega) ?_
  refine Z_iload_n 17 rfl rfl rfl ?_
  refine Z_iload_n 18 rfl rfl rfl ?_
  refine Z_i2l 19 rfl (by omega) ?_
  refine Z_iload 20 rfl rfl ?_
  refine Z_i2l 21 rfl (by omega) ?_
  refine Z_callSlp (M' := M_M_share) 22 [] rfl l_M_183 C_M_share (c_M_share l kd u (p.t.2.1 j) (by omega)) ⟨List.nodup_nil, zEL.n⟩ rfl rfl rfl (Nat.le_of_ble_eq_true rfl) ⟨rfl, rfl, Nat.le_of_ble_eq_true rfl, Nat.le_of_ble_eq_true rfl⟩ ⟨Nat.zero_le _, Nat.zero_le _⟩ ?_
  refine Z_lmul 23 rfl ?_
  refine Z_aload_n 24 rfl rfl rfl ?_
  refine Z_get 25 rfl f_M_21 rfl rfl ?_
  refine Z_iconst 26 rfl ?_
  refine Z_ia 27 rfl rfl (by omega) (by decide) ?_
  refine Z_i2l 28 rfl (by omega) ?_
  refine Z_lmul 29 rfl ?_
  refine Z_iload 30 rfl rfl ?_
  refine Z_i2l 31 rfl (by omega) ?_
  refine Z_callSlp (M' := M_M_fifth) 32 [] rfl l_M_152 C_M_fifth (c_M_fifth l (p.t.2.1 j)) ⟨List.nodup_nil, zEL.n⟩ rfl rfl rfl (Nat.le_of_ble_eq_true rfl) ⟨rfl, rfl, Nat.le_of_ble_eq_true rfl, Nat.le_of_ble_eq_true rfl⟩ ⟨Nat.zero_le _, Nat.zero_le _⟩ ?_
  refine Z_callSlp (M' := M_M_nearest) 33 [] rfl l_M_289 C_M_nearest (c_M_nearest l (r * shr kd u (p.t.2.1 j) * p.s 5) (o5 (p.t.2.1 j)) (by omega) (by omega)) ⟨List.nodup_nil, zEL.n⟩ rfl rfl rfl (Nat.le_of_ble_eq_true rfl) ⟨rfl, rfl, Nat.le_of_ble_eq_true rfl, Nat.le_of_ble_eq_true rfl⟩ ⟨Nat.zero_le _, Nat.zero_le _⟩ ?_
  refine Z_ladd 34 rfl ?_
  refine Z_lret 35 rfl rfl ⟨Nat.le_refl _, Nat.le_refl _⟩ ?_
  exact ⟨by rw [← smp_n hk hL]; rfl, rfl⟩
theorem c_M_sampleAt (h : MV p) (hn : 0 < p.t.2.2.2) (a he fa li sl be ov av bl : Int) (sm : Int → Int) (ha : 0 ≤ a ∧ a ≤ tot p.t) : Con l M_M_sampleAt R_M_sampleAt 0 0 false [.ref 0, .int (iI a)] (eM p he fa li sl be ov av bl kw sm ma mf mw cj) (zAl (sV p.t p.s a) (LM p av bl kw sm ma mf mw cj)) := by
  have ht := TV_tot h.1
  obtain ⟨kk, uu, hA⟩ := si_all h.1 hn ha
  have hI := At_in h.1 hA
  have b0 := h.1.1.2.1 kk
  have b1 := h.1.1.2.2.2 kk
  refine Con.of_Z (by decide) D_M_sampleAt (Nat.le_of_ble_eq_true rfl) ?_
  refine Z_aload_n 0 rfl rfl rfl ?_
  refine Z_iload_n 1 rfl rfl rfl ?_
  refine Z_iload_n 2 rfl rfl rfl ?_
  refine Z_if_ne 3 rfl (tgt := 10) rfl (by omega) (fun c3 => ?_) (fun c3 => ?_)
  · refine Z_iconst 6 rfl ?_
    refine Z_ci (show _ = si a by unfold si; first | (rw [if_pos (by omega)] <;> rfl) | (rw [if_neg (by omega)] <;> rfl)) ?_
    refine Z_callVb (M' := M_M_finds) 7 isM rfl l_M_176 C_M_finds (c_M_finds l p he fa li sl be ov av bl kw sm ma mf mw cj h a (si a) (by omega) (by unfold si; split <;> omega)) (emM ..) (Or.inl ⟨_, _, _, _, rfl, rfl⟩) rfl rfl rfl (Nat.le_of_ble_eq_true rfl) ⟨rfl, rfl, Nat.le_of_ble_eq_true rfl, Nat.le_of_ble_eq_true rfl⟩ ⟨Nat.zero_le _, Nat.zero_le _⟩ (fun out hq => ?_)
    obtain ⟨he', fa', rfl, hf⟩ := hq
    refine Z_mem (mgM ..) ?_
    obtain ⟨e1, e2⟩ := hf kk uu hA
    rw [e1, e2]
    refine Z_istore_n 8 rfl rfl (Nat.le_of_ble_eq_true rfl) (lv' := [(2, .int _), (0, .ref _), (1, .int _)]) rfl ?_
    refine Z_aload_n 9 rfl rfl rfl ?_
    refine Z_aload_n 10 rfl rfl rfl ?_
    refine Z_get 11 rfl f_M_170 rfl rfl ?_
    refine Z_aload_n 12 rfl rfl rfl ?_
    refine Z_get 13 rfl f_M_173 rfl rfl ?_
    refine Z_aload_n 14 rfl rfl rfl ?_
    refine Z_get 15 rfl f_M_11 rfl rfl ?_
    refine Z_aload_n 16 rfl rfl rfl ?_
    refine Z_get 17 rfl f_M_170 rfl rfl ?_
    refine Z_ia 18 rfl rfl (by omega) (by decide) ?_
    refine Z_aload_n 19 rfl rfl rfl ?_
    refine Z_get 20 rfl f_M_18 rfl rfl ?_
    refine Z_aload_n 21 rfl rfl rfl ?_
    refine Z_get 22 rfl f_M_170 rfl rfl ?_
    refine Z_ia 23 rfl rfl (by omega) (by decide) ?_
    refine Z_callVlp (M' := M_M_sampleOf) 24 isM rfl l_M_292 C_M_sampleOf (c_M_sampleOf l p kw ma mf mw cj h kk uu (p.t.1 kk) (p.t.2.2.1 kk) kk uu li sl be ov av bl sm ⟨hI.1.1, hI.1.2.1⟩ hI.2.1 b0 b1) (emM ..) (Or.inl ⟨_, _, _, _, rfl, rfl⟩) rfl rfl rfl (Nat.le_of_ble_eq_true rfl) ⟨rfl, rfl, Nat.le_of_ble_eq_true rfl, Nat.le_of_ble_eq_true rfl⟩ ⟨Nat.zero_le _, Nat.zero_le _⟩ ?_
    refine Z_lret 25 rfl rfl ⟨Nat.le_refl _, Nat.le_refl _⟩ ?_
    exact ⟨by rw [sV_at h.1 p.s hA]; rfl, _, _, _, _, _, _, rfl⟩
  · refine Z_iconst 4 rfl ?_
    refine Z_goto 5 rfl (tgt := 11) rfl ?_
    refine Z_ci (show _ = si a by unfold si; first | (rw [if_pos (by omega)] <;> rfl) | (rw [if_neg (by omega)] <;> rfl)) ?_
    refine Z_callVb (M' := M_M_finds) 7 isM rfl l_M_176 C_M_finds (c_M_finds l p he fa li sl be ov av bl kw sm ma mf mw cj h a (si a) (by omega) (by unfold si; split <;> omega)) (emM ..) (Or.inl ⟨_, _, _, _, rfl, rfl⟩) rfl rfl rfl (Nat.le_of_ble_eq_true rfl) ⟨rfl, rfl, Nat.le_of_ble_eq_true rfl, Nat.le_of_ble_eq_true rfl⟩ ⟨Nat.zero_le _, Nat.zero_le _⟩ (fun out hq => ?_)
    obtain ⟨he', fa', rfl, hf⟩ := hq
    refine Z_mem (mgM ..) ?_
    obtain ⟨e1, e2⟩ := hf kk uu hA
    rw [e1, e2]
    refine Z_istore_n 8 rfl rfl (Nat.le_of_ble_eq_true rfl) (lv' := [(2, .int _), (0, .ref _), (1, .int _)]) rfl ?_
    refine Z_aload_n 9 rfl rfl rfl ?_
    refine Z_aload_n 10 rfl rfl rfl ?_
    refine Z_get 11 rfl f_M_170 rfl rfl ?_
    refine Z_aload_n 12 rfl rfl rfl ?_
    refine Z_get 13 rfl f_M_173 rfl rfl ?_
    refine Z_aload_n 14 rfl rfl rfl ?_
    refine Z_get 15 rfl f_M_11 rfl rfl ?_
    refine Z_aload_n 16 rfl rfl rfl ?_
    refine Z_get 17 rfl f_M_170 rfl rfl ?_
    refine Z_ia 18 rfl rfl (by omega) (by decide) ?_
    refine Z_aload_n 19 rfl rfl rfl ?_
    refine Z_get 20 rfl f_M_18 rfl rfl ?_
    refine Z_aload_n 21 rfl rfl rfl ?_
    refine Z_get 22 rfl f_M_170 rfl rfl ?_
    refine Z_ia 23 rfl rfl (by omega) (by decide) ?_
    refine Z_callVlp (M' := M_M_sampleOf) 24 isM rfl l_M_292 C_M_sampleOf (c_M_sampleOf l p kw ma mf mw cj h kk uu (p.t.1 kk) (p.t.2.2.1 kk) kk uu li sl be ov av bl sm ⟨hI.1.1, hI.1.2.1⟩ hI.2.1 b0 b1) (emM ..) (Or.inl ⟨_, _, _, _, rfl, rfl⟩) rfl rfl rfl (Nat.le_of_ble_eq_true rfl) ⟨rfl, rfl, Nat.le_of_ble_eq_true rfl, Nat.le_of_ble_eq_true rfl⟩ ⟨Nat.zero_le _, Nat.zero_le _⟩ ?_
    refine Z_lret 25 rfl rfl ⟨Nat.le_refl _, Nat.le_refl _⟩ ?_
    exact ⟨by rw [sV_at h.1 p.s hA]; rfl, _, _, _, _, _, _, rfl⟩
theorem c_M_sample (h : MV p) (a he fa li sl be ov av bl : Int) (sm : Int → Int) (ha : inI a) : Con l M_M_sample R_M_sample 0 0 false [.ref 0, .int (iI a)] (eM p he fa li sl be ov av bl kw sm ma mf mw cj) (zAl (sampleF p.t p.s a) (LM p av bl kw sm ma mf mw cj)) := by
  refine Con.of_Z (by decide) D_M_sample (Nat.le_of_ble_eq_true rfl) ?_
  refine Z_aload_n 0 rfl rfl rfl ?_
  refine Z_iload_n 1 rfl rfl rfl ?_
  refine Z_callVbp (M' := M_M_isAngle) 2 isM rfl l_M_167 C_M_isAngle (c_M_isAngle l p he fa li sl be ov av bl kw sm ma mf mw cj h a ha) (emM ..) (Or.inl ⟨_, _, _, _, rfl, rfl⟩) rfl rfl rfl (Nat.le_of_ble_eq_true rfl) ⟨rfl, rfl, Nat.le_of_ble_eq_true rfl, Nat.le_of_ble_eq_true rfl⟩ ⟨Nat.zero_le _, Nat.zero_le _⟩ ?_
  refine Z_ifb_eq 3 rfl (tgt := 16) rfl (fun c5 => ?_) (fun c5 => ?_)
  · refine Z_ldc2 8 rfl k_M_205 (c := -9223372036854775808) rfl ?_
    refine Z_lret 9 rfl rfl ⟨Nat.le_refl _, Nat.le_refl _⟩ ?_
    exact ⟨by unfold sampleF; first | (rw [cif_t (by omega)]; rfl) | (rw [cif_f (by omega)]; rfl), _, _, _, _, _, _, rfl⟩
  · refine Z_aload_n 4 rfl rfl rfl ?_
    refine Z_iload_n 5 rfl rfl rfl ?_
    refine Z_callVl (M' := M_M_sampleAt) 6 isM rfl l_M_296 C_M_sampleAt (c_M_sampleAt l p kw ma mf mw cj h (by omega) a he fa li sl be ov av bl sm (by omega)) (emM ..) (Or.inl ⟨_, _, _, _, rfl, rfl⟩) rfl rfl rfl (Nat.le_of_ble_eq_true rfl) ⟨rfl, rfl, Nat.le_of_ble_eq_true rfl, Nat.le_of_ble_eq_true rfl⟩ ⟨Nat.zero_le _, Nat.zero_le _⟩ (fun out hq => ?_)
    obtain ⟨he', fa', li', sl', be', ov', rfl⟩ := hq
    refine Z_mem (mgM ..) ?_
    refine Z_goto 7 rfl (tgt := 19) rfl ?_
    refine Z_lret 9 rfl rfl ⟨Nat.le_refl _, Nat.le_refl _⟩ ?_
    exact ⟨by unfold sampleF; first | (rw [cif_t (by omega)]; rfl) | (rw [cif_f (by omega)]; rfl), _, _, _, _, _, _, rfl⟩
def errE (f : Int → Int) (T st X A B : Int) : Prop := (0 < B ∧ B ≤ 60) ∧ (0 ≤ A ∧ A ≤ 400000000) ∧ ((A = 0 ∧ B = 1) ∨ ∃ a, 0 ≤ a ∧ a ≤ T ∧ A = gap f a st T ∧ B = spa a st T) ∧ ∀ a, 0 ≤ a → a ≤ T → a < X → gap f a st T * B ≤ A * spa a st T
/-- the gap in a line -/
def gpM (f : Int → Int) (F to x : Int) : Int := ab ((f F - f x) * (to - F) + (f to - f F) * (x - F))
theorem fr_at {F st x m : Int} (hs : 1 ≤ st) (hF : F = st * m) (h0 : 0 ≤ F) (h1 : F ≤ x) (h2 : x < F + st) : frm x st = F := by
  unfold frm
  rw [Int.tmod_eq_emod_of_nonneg (by omega), show x = (x - F) + st * m by omega, Int.add_mul_emod_self_left, Int.emod_eq_of_lt (by omega) (by omega)]
  omega
theorem gp_0 {f : Int → Int} {T st x m : Int} (hs : 1 ≤ st) (hx : x = st * m) (h0 : 0 ≤ x) : gap f x st T = 0 := by
  have e := fr_at (x := x) hs hx h0 (Int.le_refl x) (by omega)
  unfold gap
  rw [e, show f x * spa x st T + (f (too x st T) - f x) * (x - x) - f x * spa x st T = 0 by rw [Int.sub_self, Int.mul_zero]; omega]
  rfl
theorem gp_in {f : Int → Int} {T st F x m : Int} (hs : 1 ≤ st ∧ st ≤ 60) (hF : F = st * m) (h0 : 0 ≤ F ∧ F < T) (h1 : F ≤ x) (h2 : x < F + st) : gap f x st T = gpM f F (if T < F + st then T else F + st) x ∧ spa x st T = (if T < F + st then T else F + st) - F := by
  have e := fr_at hs.1 hF h0.1 h1 h2
  have e2 : spa x st T = (if T < F + st then T else F + st) - F := by
    unfold spa mnm
    rw [e]
    repeat' split
    all_goals omega
  have e3 : too x st T = (if T < F + st then T else F + st) := by
    unfold too
    rw [e2, e]
    repeat' split
    all_goals omega
  refine ⟨?_, e2⟩
  unfold gap gpM
  rw [e2, e3, e]
  congr 1
  grind
theorem gp_to (f : Int → Int) (F to : Int) : gpM f F to to = 0 := by
  unfold gpM
  rw [show (f F - f to) * (to - F) + (f to - f F) * (to - F) = 0 by grind]
  rfl
theorem errE_keep {f : Int → Int} {T st X A B : Int} (h : errE f T st X A B) (hx : gap f X st T * B ≤ A * spa X st T) : errE f T st (X + 1) A B := by
  obtain ⟨h1, h2, h3, h4⟩ := h
  refine ⟨h1, h2, h3, fun a a0 a1 a2 => ?_⟩
  by_cases e : a = X
  · rw [e]; exact hx
  · exact h4 a a0 a1 (by omega)
theorem errE_take {f : Int → Int} {T st X A B : Int} (hs : 1 ≤ st ∧ st ≤ 60) (hX : 0 ≤ X ∧ X ≤ T) (hf : ∀ x, 0 ≤ x → x ≤ T → -1300000 ≤ f x ∧ f x ≤ 1300000) (h : errE f T st X A B) (hx : A * spa X st T < gap f X st T * B) : errE f T st (X + 1) (gap f X st T) (spa X st T) := by
  obtain ⟨h1, h2, h3, h4⟩ := h
  have g1 := gap_bd hX hs hf
  have g2 := frm_bd hX hs
  refine ⟨by omega, g1, Or.inr ⟨X, hX.1, hX.2, rfl, rfl⟩, fun a a0 a1 a2 => ?_⟩
  by_cases e : a = X
  · rw [e]; exact Int.le_refl _
  · have g3 := frm_bd (a := a) (st := st) (T := T) ⟨a0, a1⟩ hs
    exact Int.le_of_lt (fr1 h1.1 (by omega) (by omega) (h4 a a0 a1 (by omega)) hx)
theorem errE_c {f f' : Int → Int} {T st X A B : Int} (hs : 1 ≤ st ∧ st ≤ 60) (h : ∀ x, 0 ≤ x → x ≤ T → f x = f' x) (hz : errE f T st X A B) : errE f' T st X A B := by
  obtain ⟨h1, h2, h3, h4⟩ := hz
  refine ⟨h1, h2, h3.imp id ?_, fun a a0 a1 a2 => ?_⟩
  · rintro ⟨a, a1, a2, e1, e2⟩
    exact ⟨a, a1, a2, by rw [e1]; exact gap_c ⟨a1, a2⟩ hs h, e2⟩
  · rw [← gap_c ⟨a0, a1⟩ hs h]
    exact h4 a a0 a1 a2
theorem errE_w {f : Int → Int} {T st X Y A B : Int} (h : errE f T st X A B) (hw : ∀ a, a ≤ T → a < Y → a < X) : errE f T st Y A B :=
  ⟨h.1, h.2.1, h.2.2.1, fun a a0 a1 a2 => h.2.2.2 a a0 a1 (hw a a1 a2)⟩
def ErM (st : Int) : List zE → Prop := fun m => ∃ he' fa' li' sl' be' ov' A B sm', m = eM p he' fa' li' sl' be' ov' A B kw sm' ma mf mw cj ∧ errE (sV p.t p.s) (tot p.t) st (tot p.t + 1) A B
theorem lp_M_errs (h : MV p) (hn : 0 < p.t.2.2.2) (st he fa li sl be ov : Int) (sm : Int → Int) (hs : 1 ≤ st ∧ st ≤ 60) (hsm : ∀ x, 0 ≤ x → x ≤ tot p.t → sm x = sV p.t p.s x) : ∀ (d : Nat) (F m A B : Int), 0 ≤ F → F < tot p.t + 60 → F = st * m → tot p.t + 60 - F < d → errE sm (tot p.t) st F A B → (tot p.t < F → errE sm (tot p.t) st (tot p.t + 1) A B) → Z (l, M_M_errs, R_M_errs, (0, 0), false, zAv (ErM p kw ma mf mw cj st)) 0 0 (eM p he fa li sl be ov A B kw sm ma mf mw cj) 41 [(0, .ref 0), (1, .int (iI st)), (2, .int (iI (tot p.t))), (3, .int (iI F))] [] := by
  have ht := TV_tot h.1
  have hf : ∀ x, 0 ≤ x → x ≤ tot p.t → -1300000 ≤ sm x ∧ sm x ≤ 1300000 := fun x x1 x2 => by rw [hsm x x1 x2]; exact sV_bd h.1 h.2.1 hn x1 x2
  intro d
  induction d with
  | zero => intro F m A B h1 h2 h3 h4; omega
  | succ d ih =>
    intro F m A B h1 h2 h3 h4 h5 h6
    have inner : F < tot p.t → ∀ (d2 : Nat) (x A B : Int), F ≤ x → x ≤ (if tot p.t < F + st then tot p.t else F + st) + 1 → (if tot p.t < F + st then tot p.t else F + st) + 1 - x < d2 → errE sm (tot p.t) st x A B → Z (l, M_M_errs, R_M_errs, (0, 0), false, zAv (ErM p kw ma mf mw cj st)) 0 0 (eM p he fa li sl be ov A B kw sm ma mf mw cj) 65 [(0, .ref 0), (1, .int (iI st)), (2, .int (iI (tot p.t))), (3, .int (iI F)), (4, .int (iI (if tot p.t < F + st then tot p.t else F + st))), (5, .long (lI ((if tot p.t < F + st then tot p.t else F + st) - F))), (7, .int (iI x))] [] := by
      intro hF d2
      obtain ⟨to, hto⟩ : ∃ to, to = (if tot p.t < F + st then tot p.t else F + st) := ⟨_, rfl⟩
      have hto2 : (F < to ∧ to ≤ tot p.t) ∧ (to = tot p.t ∨ to = F + st) ∧ to ≤ F + st ∧ to - F ≤ 60 := by rw [hto]; split <;> omega
      rw [← hto]
      induction d2 with
      | zero => intro x A B i1 i2 i3; omega
      | succ d2 ih2 =>
        intro x A B i1 i2 i3 i4
        have hA := i4.2.1
        have hB := i4.1
        have gi : x < F + st → gap sm x st (tot p.t) = gpM sm F to x ∧ spa x st (tot p.t) = to - F := fun z => by
          have := gp_in (f := sm) (T := tot p.t) hs h3 ⟨h1, hF⟩ i1 z
          rw [← hto] at this
          exact this
        have gb : x ≤ to → 0 ≤ gpM sm F to x ∧ gpM sm F to x ≤ 400000000 := fun z => by
          have f1 := hf F h1 (by omega)
          have f2 := hf x (by omega) (by omega)
          have f3 := hf to (by omega) (by omega)
          have m1 := mul_ab (x := sm F - sm x) (y := to - F) (A := 2600000) (B := 60) (by omega) (by omega)
          have m2 := mul_ab (x := sm to - sm F) (y := x - F) (A := 2600000) (B := 60) (by omega) (by omega)
          exact ab_bd (by omega)
        have gz : x = F + st → x ≤ to → gpM sm F to x = 0 ∧ gap sm x st (tot p.t) = 0 := fun z z2 => by
          have ez : to = x := by omega
          refine ⟨by rw [ez]; exact gp_to sm F x, gp_0 (m := m + 1) hs.1 ?_ (by omega)⟩
          rw [z, h3, Int.mul_add, Int.mul_one]
        refine Z_iload 41 rfl rfl ?_
        refine Z_iload 42 rfl rfl ?_
        refine Z_icmp_gt 43 rfl (tgt := 154) rfl (by omega) (by omega) (fun cto => ?_) (fun cto => ?_)
        · refine Z_iload_n 91 rfl rfl rfl ?_
          refine Z_iload_n 92 rfl rfl rfl ?_
          refine Z_iadd 93 rfl ?_
          refine Z_istore_n 94 rfl rfl (Nat.le_of_ble_eq_true rfl) (lv' := [(3, .int _), (0, .ref _), (1, .int _), (2, .int _), (4, .int _), (5, .long _), (7, .int _)]) rfl ?_
          refine Z_goto 95 rfl (tgt := 41) rfl ?_
          refine Z_pick [0, 1, 2, 3] (lv' := [(0, .ref _), (1, .int _), (2, .int _), (3, .int _)]) rfl ?_
          have ez : to = tot p.t ∨ to = F + st := by omega
          exact ih (F + st) (m + 1) A B (by omega) (by omega) (by rw [h3, Int.mul_add, Int.mul_one]) (by omega) (errE_w i4 (fun a a1 a2 => by omega)) (fun z => errE_w i4 (fun a a1 a2 => by omega))
        · refine Z_aload_n 44 rfl rfl rfl ?_
          refine Z_get 45 rfl f_M_33 rfl rfl ?_
          refine Z_iload_n 46 rfl rfl rfl ?_
          refine Z_la 47 rfl rfl (by omega) (by decide) ?_
          refine Z_aload_n 48 rfl rfl rfl ?_
          refine Z_get 49 rfl f_M_33 rfl rfl ?_
          refine Z_iload 50 rfl rfl ?_
          refine Z_la 51 rfl rfl (by omega) (by decide) ?_
          refine Z_lsub 52 rfl ?_
          refine Z_lload 53 rfl rfl ?_
          refine Z_lmul 54 rfl ?_
          refine Z_aload_n 55 rfl rfl rfl ?_
          refine Z_get 56 rfl f_M_33 rfl rfl ?_
          refine Z_iload 57 rfl rfl ?_
          refine Z_la 58 rfl rfl (by omega) (by decide) ?_
          refine Z_aload_n 59 rfl rfl rfl ?_
          refine Z_get 60 rfl f_M_33 rfl rfl ?_
          refine Z_iload_n 61 rfl rfl rfl ?_
          refine Z_la 62 rfl rfl (by omega) (by decide) ?_
          refine Z_lsub 63 rfl ?_
          refine Z_iload 64 rfl rfl ?_
          refine Z_iload_n 65 rfl rfl rfl ?_
          refine Z_isub 66 rfl ?_
          refine Z_i2l 67 rfl (by omega) ?_
          refine Z_lmul 68 rfl ?_
          refine Z_ladd 69 rfl ?_
          have hgb := gb (by omega)
          have f1 := hf F h1 (by omega)
          have f2 := hf x (by omega) (by omega)
          have f3 := hf to (by omega) (by omega)
          have m1 := mul_ab (x := sm F - sm x) (y := to - F) (A := 2600000) (B := 60) (by omega) (by omega)
          have m2 := mul_ab (x := sm to - sm F) (y := x - F) (A := 2600000) (B := 60) (by omega) (by omega)
          have m3 := mul_bd (x := gpM sm F to x) (y := B) (A := 400000000) (B := 60) hgb (by omega)
          have m4 := mul_bd (x := A) (y := to - F) (A := 400000000) (B := 60) hA (by omega)
          refine Z_absL 70 rfl l_M_137 b_st_absL b_ini_Math b_cd_absL (by omega) (Nat.le_of_ble_eq_true rfl) ⟨Nat.le_of_ble_eq_true rfl, Nat.zero_le _, Nat.zero_le _⟩ ?_
          refine Z_cl (show _ = gpM sm F to x from rfl) ?_
          refine Z_lstore 71 rfl (Nat.le_of_ble_eq_true rfl) (lv' := [(8, .long _), (0, .ref _), (1, .int _), (2, .int _), (3, .int _), (4, .int _), (5, .long _), (7, .int _)]) rfl ?_
          refine Z_lload 72 rfl rfl ?_
          refine Z_aload_n 73 rfl rfl rfl ?_
          refine Z_get 74 rfl f_M_214 rfl rfl ?_
          refine Z_lmul 75 rfl ?_
          refine Z_aload_n 76 rfl rfl rfl ?_
          refine Z_get 77 rfl f_M_211 rfl rfl ?_
          refine Z_lload 78 rfl rfl ?_
          refine Z_lmul 79 rfl ?_
          refine Z_lc_gt 80 rfl rfl (tgt := 136) rfl (by omega) (by omega) (fun c129 => ?_) (fun c129 => ?_)
          · refine Z_aload_n 83 rfl rfl rfl ?_
            refine Z_lload 84 rfl rfl ?_
            refine Z_put 85 rfl f_M_211 rfl (Nat.le_of_ble_eq_true rfl) (fun _ => ⟨rfl, rfl⟩) (fs' := []) (mem' := eM p he fa li sl be ov (gpM sm F to x) B kw sm ma mf mw cj) rfl ?_
            refine Z_aload_n 86 rfl rfl rfl ?_
            refine Z_lload 87 rfl rfl ?_
            refine Z_put 88 rfl f_M_214 rfl (Nat.le_of_ble_eq_true rfl) (fun _ => ⟨rfl, rfl⟩) (fs' := []) (mem' := eM p he fa li sl be ov (gpM sm F to x) (to - F) kw sm ma mf mw cj) rfl ?_
            refine Z_iinc 89 rfl rfl (Nat.le_of_ble_eq_true rfl) (lv' := [(7, .int _), (8, .long _), (0, .ref _), (1, .int _), (2, .int _), (3, .int _), (4, .int _), (5, .long _)]) rfl ?_
            refine Z_goto 90 rfl (tgt := 65) rfl ?_
            refine Z_pick [0, 1, 2, 3, 4, 5, 7] (lv' := [(0, .ref _), (1, .int _), (2, .int _), (3, .int _), (4, .int _), (5, .long _), (7, .int _)]) rfl ?_
            first
              | (have hno : gpM sm F to x * B ≤ A * (to - F) := by omega
                 have hsp := (frm_bd (a := x) (st := st) (T := tot p.t) (by omega) hs).2.1
                 exact ih2 (x + 1) A B (by omega) (by omega) (by omega) (errE_keep i4 (by
                   rcases Int.lt_or_le x (F + st) with z | z
                   · rw [(gi z).1, (gi z).2]; exact hno
                   · rw [(gz (by omega) (by omega)).2, Int.zero_mul]; exact Int.mul_nonneg hA.1 (by omega))))
              | (have hyes : A * (to - F) < gpM sm F to x * B := by omega
                 have z : x < F + st := by
                   rcases Int.lt_or_le x (F + st) with z | z
                   · exact z
                   · rw [(gz (by omega) (by omega)).1, Int.zero_mul] at hyes
                     omega
                 have e := errE_take hs (by omega) hf i4 (by rw [(gi z).1, (gi z).2]; exact hyes)
                 rw [(gi z).1, (gi z).2] at e
                 exact ih2 (x + 1) _ _ (by omega) (by omega) (by omega) e)
          · refine Z_goto 82 rfl (tgt := 148) rfl ?_
            refine Z_iinc 89 rfl rfl (Nat.le_of_ble_eq_true rfl) (lv' := [(7, .int _), (8, .long _), (0, .ref _), (1, .int _), (2, .int _), (3, .int _), (4, .int _), (5, .long _)]) rfl ?_
            refine Z_goto 90 rfl (tgt := 65) rfl ?_
            refine Z_pick [0, 1, 2, 3, 4, 5, 7] (lv' := [(0, .ref _), (1, .int _), (2, .int _), (3, .int _), (4, .int _), (5, .long _), (7, .int _)]) rfl ?_
            first
              | (have hno : gpM sm F to x * B ≤ A * (to - F) := by omega
                 have hsp := (frm_bd (a := x) (st := st) (T := tot p.t) (by omega) hs).2.1
                 exact ih2 (x + 1) A B (by omega) (by omega) (by omega) (errE_keep i4 (by
                   rcases Int.lt_or_le x (F + st) with z | z
                   · rw [(gi z).1, (gi z).2]; exact hno
                   · rw [(gz (by omega) (by omega)).2, Int.zero_mul]; exact Int.mul_nonneg hA.1 (by omega))))
              | (have hyes : A * (to - F) < gpM sm F to x * B := by omega
                 have z : x < F + st := by
                   rcases Int.lt_or_le x (F + st) with z | z
                   · exact z
                   · rw [(gz (by omega) (by omega)).1, Int.zero_mul] at hyes
                     omega
                 have e := errE_take hs (by omega) hf i4 (by rw [(gi z).1, (gi z).2]; exact hyes)
                 rw [(gi z).1, (gi z).2] at e
                 exact ih2 (x + 1) _ _ (by omega) (by omega) (by omega) e)
    refine Z_iload_n 25 rfl rfl rfl ?_
    refine Z_iload_n 26 rfl rfl rfl ?_
    refine Z_icmp_ge 27 rfl (tgt := 161) rfl (by omega) (by omega) (fun c43 => ?_) (fun c43 => ?_)
    · refine Z_vret 96 rfl rfl ⟨Nat.le_refl _, Nat.le_refl _⟩ ?_
      exact ⟨rfl, he, fa, li, sl, be, ov, A, B, sm, rfl, errE_c hs hsm (by
        rcases Int.lt_or_le (tot p.t) F with z | z
        · exact h6 z
        · have ez : F = tot p.t := by omega
          have h5' := errE_keep h5 (by rw [gp_0 hs.1 h3 h1, Int.zero_mul]; exact Int.mul_nonneg h5.2.1.1 (by have := (frm_bd (a := F) (st := st) (T := tot p.t) (by omega) hs).2.1; omega))
          rw [ez] at h5'
          exact h5')⟩
    · refine Z_iload_n 28 rfl rfl rfl ?_
      refine Z_iload_n 29 rfl rfl rfl ?_
      refine Z_iload_n 30 rfl rfl rfl ?_
      refine Z_iadd 31 rfl ?_
      refine Z_minI 32 rfl l_M_300 b_st_minI b_ini_Math b_cd_minI (by omega) (by omega) (Nat.le_of_ble_eq_true rfl) ⟨Nat.le_of_ble_eq_true rfl, Nat.zero_le _, Nat.zero_le _⟩ ?_
      refine Z_ci (show _ = (if tot p.t < F + st then tot p.t else F + st) by split <;> split <;> omega) ?_
      refine Z_istore 33 rfl (Nat.le_of_ble_eq_true rfl) (lv' := [(4, .int _), (0, .ref _), (1, .int _), (2, .int _), (3, .int _)]) rfl ?_
      refine Z_iload 34 rfl rfl ?_
      refine Z_iload_n 35 rfl rfl rfl ?_
      refine Z_isub 36 rfl ?_
      refine Z_i2l 37 rfl (by split <;> omega) ?_
      refine Z_lstore 38 rfl (Nat.le_of_ble_eq_true rfl) (lv' := [(5, .long _), (4, .int _), (0, .ref _), (1, .int _), (2, .int _), (3, .int _)]) rfl ?_
      refine Z_iload_n 39 rfl rfl rfl ?_
      refine Z_istore 40 rfl (Nat.le_of_ble_eq_true rfl) (lv' := [(7, .int _), (5, .long _), (4, .int _), (0, .ref _), (1, .int _), (2, .int _), (3, .int _)]) rfl ?_
      refine Z_pick [0, 1, 2, 3, 4, 5, 7] (lv' := [(0, .ref _), (1, .int _), (2, .int _), (3, .int _), (4, .int _), (5, .long _), (7, .int _)]) rfl ?_
      exact inner (by omega) 62 F A B (Int.le_refl F) (by split <;> omega) (by split <;> omega) h5
theorem lp1_M_errs (h : MV p) (hn : 0 < p.t.2.2.2) (st : Int) (hs : 1 ≤ st ∧ st ≤ 60) : ∀ (d : Nat) (a he fa li sl be ov av bl : Int) (sm : Int → Int), (0 ≤ a ∧ a ≤ tot p.t + 1) → tot p.t + 1 - a < d → (∀ x, 0 ≤ x → x < a → sm x = sV p.t p.s x) → Z (l, M_M_errs, R_M_errs, (0, 0), false, zAv (ErM p kw ma mf mw cj st)) 0 0 (eM p he fa li sl be ov av bl kw sm ma mf mw cj) 7 [(0, .ref 0), (1, .int (iI st)), (2, .int (iI (tot p.t))), (3, .int (iI a))] [] := by
  have ht := TV_tot h.1
  intro d
  induction d with
  | zero => intro a he fa li sl be ov av bl sm h1 h2; omega
  | succ d ih =>
    intro a he fa li sl be ov av bl sm h1 h2 h3
    refine Z_iload_n 5 rfl rfl rfl ?_
    refine Z_iload_n 6 rfl rfl rfl ?_
    refine Z_icmp_gt 7 rfl (tgt := 29) rfl (by omega) (by omega) (fun c9 => ?_) (fun c9 => ?_)
    · refine Z_aload_n 17 rfl rfl rfl ?_
      refine Z_lconst 18 rfl ?_
      refine Z_put 19 rfl f_M_211 rfl (Nat.le_of_ble_eq_true rfl) (fun _ => ⟨rfl, rfl⟩) (fs' := []) (mem' := eM p he fa li sl be ov 0 bl kw sm ma mf mw cj) rfl ?_
      refine Z_aload_n 20 rfl rfl rfl ?_
      refine Z_lconst 21 rfl ?_
      refine Z_put 22 rfl f_M_214 rfl (Nat.le_of_ble_eq_true rfl) (fun _ => ⟨rfl, rfl⟩) (fs' := []) (mem' := eM p he fa li sl be ov 0 1 kw sm ma mf mw cj) rfl ?_
      refine Z_iconst 23 rfl ?_
      refine Z_istore_n 24 rfl rfl (Nat.le_of_ble_eq_true rfl) (lv' := [(3, .int _), (0, .ref _), (1, .int _), (2, .int _)]) rfl ?_
      refine Z_pick [0, 1, 2, 3] (lv' := [(0, .ref _), (1, .int _), (2, .int _), (3, .int _)]) rfl ?_
      have hsm : ∀ x, 0 ≤ x → x ≤ tot p.t → sm x = sV p.t p.s x := fun x x1 x2 => h3 x x1 (by omega)
      exact lp_M_errs l p kw ma mf mw cj h hn st he fa li sl be ov sm hs hsm (tot p.t + 61).toNat 0 0 0 1 (by omega) (by omega) (by omega) (by omega) ⟨by omega, by omega, Or.inl ⟨rfl, rfl⟩, fun x x1 x2 x3 => by omega⟩ (by omega)
    · refine Z_aload_n 8 rfl rfl rfl ?_
      refine Z_get 9 rfl f_M_33 rfl rfl ?_
      refine Z_iload_n 10 rfl rfl rfl ?_
      refine Z_aload_n 11 rfl rfl rfl ?_
      refine Z_iload_n 12 rfl rfl rfl ?_
      refine Z_callVl (M' := M_M_sampleAt) 13 isM rfl l_M_296 C_M_sampleAt (c_M_sampleAt l p kw ma mf mw cj h hn a he fa li sl be ov av bl sm (by omega)) (emM ..) (Or.inl ⟨_, _, _, _, rfl, rfl⟩) rfl rfl rfl (Nat.le_of_ble_eq_true rfl) ⟨rfl, rfl, Nat.le_of_ble_eq_true rfl, Nat.le_of_ble_eq_true rfl⟩ ⟨Nat.zero_le _, Nat.zero_le _⟩ (fun out hq => ?_)
      obtain ⟨he', fa', li', sl', be', ov', rfl⟩ := hq
      refine Z_mem (mgM ..) ?_
      refine Z_las 14 rfl rfl (by omega) (by decide) (mem' := eM p he' fa' li' sl' be' ov' av bl kw (uI sm a (sV p.t p.s a)) ma mf mw cj) rfl ?_
      refine Z_iinc 15 rfl rfl (Nat.le_of_ble_eq_true rfl) (lv' := [(3, .int _), (0, .ref _), (1, .int _), (2, .int _)]) rfl ?_
      refine Z_goto 16 rfl (tgt := 7) rfl ?_
      refine Z_pick [0, 1, 2, 3] (lv' := [(0, .ref _), (1, .int _), (2, .int _), (3, .int _)]) rfl ?_
      exact ih (a + 1) _ _ _ _ _ _ _ _ _ (by omega) (by omega) (fun x x1 x2 => by
        by_cases e : x = a
        · rw [e, uI_s]
        · rw [uI_n _ _ e]
          exact h3 x x1 (by omega))
theorem c_M_errs (h : MV p) (hn : 0 < p.t.2.2.2) (st he fa li sl be ov av bl : Int) (sm : Int → Int) (hs : 1 ≤ st ∧ st ≤ 60) : Con l M_M_errs R_M_errs 0 0 false [.ref 0, .int (iI st)] (eM p he fa li sl be ov av bl kw sm ma mf mw cj) (zAv (ErM p kw ma mf mw cj st)) := by
  have ht := TV_tot h.1
  refine Con.of_Z (by decide) D_M_errs (Nat.le_of_ble_eq_true rfl) ?_
  refine Z_aload_n 0 rfl rfl rfl ?_
  refine Z_callVip (M' := M_M_total) 1 isM rfl l_M_88 C_M_total (c_M_total l p he fa li sl be ov av bl kw sm ma mf mw cj h.1.1) (emM ..) (Or.inl ⟨_, _, _, _, rfl, rfl⟩) rfl rfl rfl (Nat.le_of_ble_eq_true rfl) ⟨rfl, rfl, Nat.le_of_ble_eq_true rfl, Nat.le_of_ble_eq_true rfl⟩ ⟨Nat.zero_le _, Nat.zero_le _⟩ ?_
  refine Z_istore_n 2 rfl rfl (Nat.le_of_ble_eq_true rfl) (lv' := [(2, .int _), (0, .ref _), (1, .int _)]) rfl ?_
  refine Z_iconst 3 rfl ?_
  refine Z_istore_n 4 rfl rfl (Nat.le_of_ble_eq_true rfl) (lv' := [(3, .int _), (2, .int _), (0, .ref _), (1, .int _)]) rfl ?_
  refine Z_pick [0, 1, 2, 3] (lv' := [(0, .ref _), (1, .int _), (2, .int _), (3, .int _)]) rfl ?_
  exact lp1_M_errs l p kw ma mf mw cj h hn st hs 362 0 he fa li sl be ov av bl sm (by omega) (by omega) (fun x x1 x2 => by omega)
def LSmp : List zE → Prop := fun m => ∃ he' fa' li' sl' be' ov' av' bl' sm', m = eM p he' fa' li' sl' be' ov' av' bl' kw sm' ma mf mw cj
theorem c_M_error (h : MV p) (st part he fa li sl be ov av bl : Int) (sm : Int → Int) (h1 : inI st) (h2 : inI part) : Con l M_M_error R_M_error 0 0 false [.ref 0, .int (iI st), .int (iI part)] (eM p he fa li sl be ov av bl kw sm ma mf mw cj) (zAl (errF p.t p.s st part) (LSmp p kw ma mf mw cj)) := by
  have hn := h.1.1.1
  refine Con.of_Z (by decide) D_M_error (Nat.le_of_ble_eq_true rfl) ?_
  refine Z_iload_n 0 rfl rfl rfl ?_
  refine Z_i2l 1 rfl (by omega) ?_
  refine Z_lconst 2 rfl ?_
  refine Z_ldc2 3 rfl k_M_161 (c := 60) rfl ?_
  refine Z_callSbp (M' := M_M_in) 4 [] rfl l_M_80 C_M_in (c_M_in l _ _ _ (by omega) (by omega) (by omega)) ⟨List.nodup_nil, zEL.n⟩ rfl rfl rfl (Nat.le_of_ble_eq_true rfl) ⟨rfl, rfl, Nat.le_of_ble_eq_true rfl, Nat.le_of_ble_eq_true rfl⟩ ⟨Nat.zero_le _, Nat.zero_le _⟩ ?_
  refine Z_ifb_eq 5 rfl (tgt := 29) rfl (fun c9 => ?_) (fun c9 => ?_)
  · refine Z_ldc2 15 rfl k_M_205 (c := -9223372036854775808) rfl ?_
    refine Z_lret 16 rfl rfl ⟨Nat.le_refl _, Nat.le_refl _⟩ ?_
    exact ⟨by unfold errF; (repeat (first | rw [cif_t (by first | assumption | omega)] | rw [cif_f (by first | assumption | omega)])) <;> rfl, _, _, _, _, _, _, _, _, _, rfl⟩
  · refine Z_iload_n 6 rfl rfl rfl ?_
    refine Z_i2l 7 rfl (by omega) ?_
    refine Z_lconst 8 rfl ?_
    refine Z_lconst 9 rfl ?_
    refine Z_callSbp (M' := M_M_in) 10 [] rfl l_M_80 C_M_in (c_M_in l _ _ _ (by omega) (by omega) (by omega)) ⟨List.nodup_nil, zEL.n⟩ rfl rfl rfl (Nat.le_of_ble_eq_true rfl) ⟨rfl, rfl, Nat.le_of_ble_eq_true rfl, Nat.le_of_ble_eq_true rfl⟩ ⟨Nat.zero_le _, Nat.zero_le _⟩ ?_
    refine Z_ifb_eq 11 rfl (tgt := 29) rfl (fun c19 => ?_) (fun c19 => ?_)
    · refine Z_ldc2 15 rfl k_M_205 (c := -9223372036854775808) rfl ?_
      refine Z_lret 16 rfl rfl ⟨Nat.le_refl _, Nat.le_refl _⟩ ?_
      exact ⟨by unfold errF; (repeat (first | rw [cif_t (by first | assumption | omega)] | rw [cif_f (by first | assumption | omega)])) <;> rfl, _, _, _, _, _, _, _, _, _, rfl⟩
    · refine Z_aload_n 12 rfl rfl rfl ?_
      refine Z_get 13 rfl f_M_77 rfl rfl ?_
      refine Z_if_ne 14 rfl (tgt := 33) rfl (by omega) (fun c26 => ?_) (fun c26 => ?_)
      · refine Z_aload_n 17 rfl rfl rfl ?_
        refine Z_iload_n 18 rfl rfl rfl ?_
        refine Z_callVv (M' := M_M_errs) 19 isM rfl l_M_303 C_M_errs (c_M_errs l p kw ma mf mw cj h (by omega) st he fa li sl be ov av bl sm (by omega)) (emM ..) (Or.inl ⟨_, _, _, _, rfl, rfl⟩) rfl rfl rfl (Nat.le_of_ble_eq_true rfl) ⟨rfl, rfl, Nat.le_of_ble_eq_true rfl, Nat.le_of_ble_eq_true rfl⟩ ⟨Nat.zero_le _, Nat.zero_le _⟩ (fun out hq => ?_)
        obtain ⟨he', fa', li', sl', be', ov', A, B, sm', rfl, hE⟩ := hq
        refine Z_mem (mgM ..) ?_
        obtain ⟨hB, hA, hO, hall⟩ := hE
        refine Z_aload_n 20 rfl rfl rfl ?_
        refine Z_get 21 rfl f_M_211 rfl rfl ?_
        refine Z_aload_n 22 rfl rfl rfl ?_
        refine Z_get 23 rfl f_M_214 rfl rfl ?_
        refine Z_iload_n 24 rfl rfl rfl ?_
        refine Z_callSlp (M' := M_M_lowest) 25 [] rfl l_M_207 C_M_lowest (c_M_lowest l A B part (by omega) (by omega) h2) ⟨List.nodup_nil, zEL.n⟩ rfl rfl rfl (Nat.le_of_ble_eq_true rfl) ⟨rfl, rfl, Nat.le_of_ble_eq_true rfl, Nat.le_of_ble_eq_true rfl⟩ ⟨Nat.zero_le _, Nat.zero_le _⟩ ?_
        refine Z_lret 26 rfl rfl ⟨Nat.le_refl _, Nat.le_refl _⟩ ?_
        exact ⟨by
          have hE : IsErr (sV p.t p.s) (tot p.t) st part (lo A B part) := ⟨A, B, hB.1, hA.1, hO, fun x x1 x2 => hall x x1 x2 (by omega), rfl⟩
          unfold errF
          rw [cif_t (by omega), cif_t (by omega), cif_f (by omega), theI_eq hE (fun x hx => IsErr_un hx hE)], _, _, _, _, _, _, _, _, _, rfl⟩
      · refine Z_ldc2 15 rfl k_M_205 (c := -9223372036854775808) rfl ?_
        refine Z_lret 16 rfl rfl ⟨Nat.le_refl _, Nat.le_refl _⟩ ?_
        exact ⟨by unfold errF; (repeat (first | rw [cif_t (by first | assumption | omega)] | rw [cif_f (by first | assumption | omega)])) <;> rfl, _, _, _, _, _, _, _, _, _, rfl⟩
theorem er_wid {f : Int → Int} {T st e A B : Int} (hs : 1 ≤ st ∧ st ≤ 60) (he : 0 ≤ e) (h : errE f T st (T + 1) A B) : 100 * A ≤ e * B ↔ erP f T st e := by
  obtain ⟨hB, hA, hO, hall⟩ := h
  unfold erP
  constructor
  · intro z a a0 a1
    have q := hall a a0 a1 (by omega)
    have g := frm_bd (a := a) (st := st) (T := T) ⟨a0, a1⟩ hs
    have q1 := Int.mul_le_mul_of_nonneg_right z (show 0 ≤ spa a st T by omega)
    have e1 : B * (100 * gap f a st T) = 100 * (gap f a st T * B) := by grind
    have e2 : 100 * A * spa a st T = 100 * (A * spa a st T) := by grind
    have e3 : e * B * spa a st T = B * (e * spa a st T) := by grind
    exact Int.le_of_mul_le_mul_left (show B * (100 * gap f a st T) ≤ B * (e * spa a st T) by omega) hB.1
  · intro z
    rcases hO with ⟨e1, e2⟩ | ⟨a, a0, a1, e1, e2⟩
    · rw [e1, e2]
      omega
    · rw [e1, e2]
      exact z a a0 a1
theorem lp_M_widest (h : MV p) (hn : 0 < p.t.2.2.2) (e : Int) (he0 : 0 ≤ e ∧ e ≤ 9999) : ∀ (d : Nat) (st he fa li sl be ov av bl : Int) (sm : Int → Int), 0 ≤ st → st ≤ 60 → st < d → (∀ x, st < x → ¬ widP p.t p.s e x) → Z (l, M_M_widest, R_M_widest, (0, 0), false, zAi (gstA (widP p.t p.s e)) (LSmp p kw ma mf mw cj)) 0 0 (eM p he fa li sl be ov av bl kw sm ma mf mw cj) 28 [(0, .ref 0), (1, .int (iI e)), (2, .int (iI st))] [] := by
  intro d
  induction d with
  | zero => intro st he fa li sl be ov av bl sm h2 h3 h4; omega
  | succ d ih =>
    intro st he fa li sl be ov av bl sm h2 h3 h4 h5
    refine Z_iload_n 15 rfl rfl rfl ?_
    refine Z_iconst 16 rfl ?_
    refine Z_icmp_lt 17 rfl (tgt := 65) rfl (by omega) (by omega) (fun c30 => ?_) (fun c30 => ?_)
    · refine Z_bipush 36 rfl rfl ?_
      refine Z_iret 37 rfl rfl ⟨Nat.le_refl _, Nat.le_refl _⟩ ?_
      exact ⟨by rw [gstA_eq (P := widP p.t p.s e) (v := -5) (Or.inr ⟨rfl, fun x hx => h5 x (by have := hx.1; omega) hx⟩)], _, _, _, _, _, _, _, _, _, rfl⟩
    · refine Z_aload_n 18 rfl rfl rfl ?_
      refine Z_iload_n 19 rfl rfl rfl ?_
      refine Z_callVv (M' := M_M_errs) 20 isM rfl l_M_303 C_M_errs (c_M_errs l p kw ma mf mw cj h hn st he fa li sl be ov av bl sm (by omega)) (emM ..) (Or.inl ⟨_, _, _, _, rfl, rfl⟩) rfl rfl rfl (Nat.le_of_ble_eq_true rfl) ⟨rfl, rfl, Nat.le_of_ble_eq_true rfl, Nat.le_of_ble_eq_true rfl⟩ ⟨Nat.zero_le _, Nat.zero_le _⟩ (fun out hq => ?_)
      obtain ⟨he', fa', li', sl', be', ov', A, B, sm', rfl, hE⟩ := hq
      refine Z_mem (mgM ..) ?_
      have hw := er_wid (e := e) (by omega) he0.1 hE
      obtain ⟨hB, hA, hO, hall⟩ := hE
      have m1 := mul_bd (x := e) (y := B) (A := 9999) (B := 60) he0 (by omega)
      refine Z_ldc2 21 rfl k_M_265 (c := 100) rfl ?_
      refine Z_aload_n 22 rfl rfl rfl ?_
      refine Z_get 23 rfl f_M_211 rfl rfl ?_
      refine Z_lmul 24 rfl ?_
      refine Z_iload_n 25 rfl rfl rfl ?_
      refine Z_i2l 26 rfl (by omega) ?_
      refine Z_aload_n 27 rfl rfl rfl ?_
      refine Z_get 28 rfl f_M_214 rfl rfl ?_
      refine Z_lmul 29 rfl ?_
      refine Z_lc_gt 30 rfl rfl (tgt := 59) rfl (by omega) (by omega) (fun c53 => ?_) (fun c53 => ?_)
      · refine Z_iinc 34 rfl rfl (Nat.le_of_ble_eq_true rfl) (lv' := [(2, .int _), (0, .ref _), (1, .int _)]) rfl ?_
        refine Z_goto 35 rfl (tgt := 28) rfl ?_
        refine Z_pick [0, 1, 2] (lv' := [(0, .ref _), (1, .int _), (2, .int _)]) rfl ?_
        exact ih (st + -1) _ _ _ _ _ _ _ _ _ (by omega) (by omega) (by omega) (fun x hx => by
          by_cases ex : x = st
          · rw [ex]; exact fun z => by have := hw.mpr z.2.2; omega
          · exact h5 x (by omega))
      · refine Z_iload_n 32 rfl rfl rfl ?_
        refine Z_iret 33 rfl rfl ⟨Nat.le_refl _, Nat.le_refl _⟩ ?_
        exact ⟨by rw [gstA_eq (P := widP p.t p.s e) (v := st) (Or.inl ⟨⟨by omega, h3, hw.mp (by omega)⟩, fun x hx => by rcases Int.lt_or_le st x with z | z; exact absurd hx (h5 x z); exact z⟩)], _, _, _, _, _, _, _, _, _, rfl⟩
theorem c_M_widest (h : MV p) (e he fa li sl be ov av bl : Int) (sm : Int → Int) (he0 : inI e) : Con l M_M_widest R_M_widest 0 0 false [.ref 0, .int (iI e)] (eM p he fa li sl be ov av bl kw sm ma mf mw cj) (zAi (widF p.t p.s e) (LSmp p kw ma mf mw cj)) := by
  have hn := h.1.1.1
  refine Con.of_Z (by decide) D_M_widest (Nat.le_of_ble_eq_true rfl) ?_
  refine Z_iload_n 0 rfl rfl rfl ?_
  refine Z_i2l 1 rfl (by omega) ?_
  refine Z_lconst 2 rfl ?_
  refine Z_ldc2 3 rfl k_M_259 (c := 9999) rfl ?_
  refine Z_callSbp (M' := M_M_in) 4 [] rfl l_M_80 C_M_in (c_M_in l _ _ _ (by omega) (by omega) (by omega)) ⟨List.nodup_nil, zEL.n⟩ rfl rfl rfl (Nat.le_of_ble_eq_true rfl) ⟨rfl, rfl, Nat.le_of_ble_eq_true rfl, Nat.le_of_ble_eq_true rfl⟩ ⟨Nat.zero_le _, Nat.zero_le _⟩ ?_
  refine Z_ifb_ne 5 rfl (tgt := 15) rfl (fun c9 => ?_) (fun c9 => ?_)
  · refine Z_aload_n 8 rfl rfl rfl ?_
    refine Z_get 9 rfl f_M_77 rfl rfl ?_
    refine Z_if_ne 10 rfl (tgt := 25) rfl (by omega) (fun c19 => ?_) (fun c19 => ?_)
    · refine Z_bipush 13 rfl rfl ?_
      refine Z_istore_n 14 rfl rfl (Nat.le_of_ble_eq_true rfl) (lv' := [(2, .int _), (0, .ref _), (1, .int _)]) rfl ?_
      refine Z_pick [0, 1, 2] (lv' := [(0, .ref _), (1, .int _), (2, .int _)]) rfl ?_
      unfold widF
      rw [cif_t (by omega), cif_f (by omega)]
      exact lp_M_widest l p kw ma mf mw cj h (by omega) e (by omega) 61 60 _ _ _ _ _ _ _ _ _ (by omega) (by omega) (by omega) (fun x hx hz => by have := hz.2.1; omega)
    · refine Z_bipush 11 rfl rfl ?_
      refine Z_iret 12 rfl rfl ⟨Nat.le_refl _, Nat.le_refl _⟩ ?_
      exact ⟨by unfold widF; (repeat (first | rw [cif_t (by first | assumption | omega)] | rw [cif_f (by first | assumption | omega)])), _, _, _, _, _, _, _, _, _, rfl⟩
  · refine Z_bipush 6 rfl rfl ?_
    refine Z_iret 7 rfl rfl ⟨Nat.le_refl _, Nat.le_refl _⟩ ?_
    exact ⟨by unfold widF; (repeat (first | rw [cif_t (by first | assumption | omega)] | rw [cif_f (by first | assumption | omega)])), _, _, _, _, _, _, _, _, _, rfl⟩
end M8
