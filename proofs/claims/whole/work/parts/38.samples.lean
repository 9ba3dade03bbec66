/-! CamPieces: samples, how far lines are off -/
theorem smp_0 {k L r a : Int} (hk : 0 ≤ k ∧ k ≤ 5) (hL : 1 ≤ L ∧ L ≤ 360) (g : Int) : smp (sd k L r a 0) g = a * g := by
  have hc := cf_pos (k := k) hL.1
  have e1 := sp_over k L r a 0 hk
  have e2 := sp_gain k L r a 0 hk
  have h5 := o5_bd hL
  have hs : shr k 0 L = 0 := by
    refine kd_cases (P := fun k => shr k 0 L = 0) hk rfl ?_ ?_ ?_ ?_ ?_ <;> simp [shr, o5]
  rw [hs, Int.mul_zero] at e2
  have hg : (sd k L r a 0).2.1 = 0 := by
    rcases Int.mul_eq_zero.mp e2.symm with z | z
    · omega
    · exact z
  have hb : 0 < (sd k L r a 0).1 := by
    rcases Int.lt_or_le 0 (sd k L r a 0).1 with z | z
    · exact z
    · have := Int.mul_nonpos_of_nonneg_of_nonpos (show 0 ≤ cf k L by omega) z
      omega
  unfold smp
  rw [sd_base, hg, Int.mul_zero, Int.zero_add, Int.ediv_eq_zero_of_lt (by omega) (by omega), Int.add_zero]
theorem smp_L {k L r a : Int} (hk : 0 ≤ k ∧ k ≤ 5) (hL : 1 ≤ L ∧ L ≤ 360) (h0 : k = 0 → r = 0) (g : Int) : smp (sd k L r a L) g = (a + r) * g := by
  have hc := cf_pos (k := k) hL.1
  have e1 := sp_over k L r a L hk
  have e2 := sp_gain k L r a L hk
  have h5 := o5_bd hL
  have hs : r * shr k L L = r * o5 L := by
    by_cases hz : k = 0
    · rw [h0 hz, Int.zero_mul, Int.zero_mul]
    · congr 1
      have hk2 : k = 1 ∨ k = 2 ∨ k = 3 ∨ k = 4 ∨ k = 5 := by omega
      rcases hk2 with e | e | e | e | e <;> rw [e] <;> simp [shr, o5] <;> grind
  rw [hs, e1] at e2
  have hb : 0 < (sd k L r a L).1 := by
    rcases Int.lt_or_le 0 (sd k L r a L).1 with z | z
    · exact z
    · have := Int.mul_nonpos_of_nonneg_of_nonpos (show 0 ≤ cf k L by omega) z
      omega
  have hg : (sd k L r a L).2.1 = r * (sd k L r a L).1 := by
    have e3 : cf k L * (sd k L r a L).2.1 = cf k L * (r * (sd k L r a L).1) := by rw [← e2]; grind
    exact Int.eq_of_mul_eq_mul_left (show cf k L ≠ 0 by omega) e3
  unfold smp
  rw [sd_base, hg]
  have e4 : 2 * g * (r * (sd k L r a L).1) + (sd k L r a L).1 = (sd k L r a L).1 + g * r * (2 * (sd k L r a L).1) := by grind
  rw [e4, Int.add_mul_ediv_right _ _ (by omega), Int.ediv_eq_zero_of_lt (by omega) (by omega)]
  grind
/-- the sample at an angle -/
noncomputable def sV (t : TT) (S : Int → Int) (a : Int) : Int := atV t a (if a = 0 then 1 else 0) (fun s => smp s (S 5))
theorem Vis_sV {t : TT} (h : TV t) (S : Int → Int) {a k u : Int} (hV : Vis t a k u) : smp (pl t k u) (S 5) = sV t S a := by
  have h1 := h.1.1
  have s0 : ∀ k, 0 ≤ k → k < t.2.2.2 → smp (pl t k 0) (S 5) = ah t k * S 5 := by
    intro k k1 k2
    have hm := h.2.2 k k1 k2
    unfold mb at hm
    exact smp_0 hm.1 hm.2.1 _
  have sL : ∀ k, 0 ≤ k → k < t.2.2.2 → smp (pl t k (t.2.1 k)) (S 5) = ah t (k + 1) * S 5 := by
    intro k k1 k2
    have hm := h.2.2 k k1 k2
    unfold mb at hm
    rw [ah_s t k1]
    exact smp_L hm.1 hm.2.1 hm.2.2.2.mp _
  unfold sV
  have hVi := Vis_in h hV
  by_cases ha : a = 0
  · have hl := TV_L h (Int.le_refl 0) (show 0 < t.2.2.2 by omega)
    have hA : At t a 1 0 0 := Or.inl ⟨Int.le_refl 0, by omega, by rw [ha]; rfl, Or.inr ⟨rfl, Int.le_refl 0, by omega⟩⟩
    rw [if_pos ha, atV_t h hA]
    show _ = smp (pl t 0 0) (S 5)
    rw [s0 0 (Int.le_refl 0) (by omega)]
    rcases hV with hx | ⟨v1, v2, hx | hx⟩
    · have b0 := bg_mono h.1 (Int.le_refl 0) hx.1
      rw [bg_0] at b0
      have hk0 : k = 0 := by
        rcases Int.lt_or_le 0 k with z | z
        · exfalso
          have b1 := bg_mono h.1 (show 0 ≤ 0 + 1 by omega) (show 0 + 1 ≤ k by omega)
          rw [bg_s t (Int.le_refl 0), bg_0] at b1
          omega
        · omega
      have hu0 : u = 0 := by omega
      rw [hk0, hu0, s0 0 (Int.le_refl 0) (by omega)]
    · rw [hx.2.1, hx.2.2, sL _ (by omega) (by omega), show t.2.2.2 - 1 + 1 = t.2.2.2 by omega, v1.2]
      rfl
    · exfalso
      have := v1.1
      omega
  · rw [if_neg ha]
    rcases hV with hx | ⟨v1, v2, hx | hx⟩
    · by_cases hu : u = 0
      · have hk0 : 0 < k := by
          rcases Int.lt_or_le 0 k with z | z
          · exact z
          · exfalso
            have : k = 0 := by omega
            rw [this, bg_0] at hx
            omega
        have e := bg_s t (show 0 ≤ k - 1 by omega)
        rw [show k - 1 + 1 = k by omega] at e
        have hl := TV_L h (show 0 ≤ k - 1 by omega) (by omega)
        have hA : At t a 0 (k - 1) (t.2.1 (k - 1)) := Or.inl ⟨by omega, by omega, by omega, Or.inl ⟨rfl, by omega, Int.le_refl _⟩⟩
        rw [atV_t h hA, hu, s0 k hx.1 hx.2.1]
        show _ = smp (pl t (k - 1) (t.2.1 (k - 1))) (S 5)
        rw [sL (k - 1) (by omega) (by omega), show k - 1 + 1 = k by omega]
      · have hA : At t a 0 k u := Or.inl ⟨hx.1, hx.2.1, hx.2.2.2.2, Or.inl ⟨rfl, by omega, hx.2.2.2.1⟩⟩
        rw [atV_t h hA]
    · exact absurd hx.1 ha
    · have e := bg_s t (show 0 ≤ t.2.2.2 - 1 by omega)
      rw [show t.2.2.2 - 1 + 1 = t.2.2.2 by omega] at e
      have hl := TV_L h (show 0 ≤ t.2.2.2 - 1 by omega) (by omega)
      have e9 : tot t = bg t t.2.2.2 := rfl
      have hA : At t a 0 (t.2.2.2 - 1) (t.2.1 (t.2.2.2 - 1)) := Or.inl ⟨by omega, by omega, by omega, Or.inl ⟨rfl, by omega, Int.le_refl _⟩⟩
      rw [atV_t h hA, hx.2.1, hx.2.2, s0 0 (Int.le_refl 0) v2]
      show _ = smp (pl t (t.2.2.2 - 1) (t.2.1 (t.2.2.2 - 1))) (S 5)
      rw [sL _ (by omega) (by omega), show t.2.2.2 - 1 + 1 = t.2.2.2 by omega, v1.2]
      rfl
theorem Vis_ex {t : TT} (h : TV t) (hn : 0 < t.2.2.2) {a : Int} (h0 : 0 ≤ a) (h1 : a ≤ tot t) : ∃ k u, Vis t a k u := by
  obtain ⟨k, u, hA⟩ := At_ex h hn h0 h1
  exact ⟨k, u, (Vis_At h).mpr ⟨_, hA⟩⟩
theorem sV_bd {t : TT} (h : TV t) {S : Int → Int} (hS : SB S) (hn : 0 < t.2.2.2) {a : Int} (h0 : 0 ≤ a) (h1 : a ≤ tot t) : -1300000 ≤ sV t S a ∧ sV t S a ≤ 1300000 := by
  obtain ⟨k, u, hV⟩ := Vis_ex h hn h0 h1
  have hI := Vis_in h hV
  rw [← Vis_sV h S hV]
  exact smp_b2 (pl_bd h hI.1 hI.2.1) (pl_g h hI.1 hI.2.1) hS.2.2.2.2.2
def frm (a st : Int) : Int := a - a.tmod st
def mnm (a st T : Int) : Int := if T - frm a st < st then T - frm a st else st
def spa (a st T : Int) : Int := if 1 < mnm a st T then mnm a st T else 1
def too (a st T : Int) : Int := if T < frm a st + spa a st T then T else frm a st + spa a st T
def gap (f : Int → Int) (a st T : Int) : Int := ab (f (frm a st) * spa a st T + (f (too a st T) - f (frm a st)) * (a - frm a st) - f a * spa a st T)
theorem frm_bd {a st T : Int} (ha : 0 ≤ a ∧ a ≤ T) (hs : 1 ≤ st ∧ st ≤ 60) : (0 ≤ frm a st ∧ frm a st ≤ a ∧ a - frm a st < st) ∧ (1 ≤ spa a st T ∧ spa a st T ≤ 60) ∧ (0 ≤ too a st T ∧ too a st T ≤ T) := by
  have h1 := tm_bd ha.1 (show 0 < st by omega)
  have h2 : a.tmod st ≤ a := by
    have x1 := Int.tmod_add_mul_tdiv a st
    have x2 := Int.mul_nonneg (show 0 ≤ st by omega) (Int.tdiv_nonneg ha.1 (show 0 ≤ st by omega))
    omega
  unfold too spa mnm frm
  repeat' split
  all_goals omega
theorem gap_bd {f : Int → Int} {a st T : Int} (ha : 0 ≤ a ∧ a ≤ T) (hs : 1 ≤ st ∧ st ≤ 60) (hf : ∀ x, 0 ≤ x → x ≤ T → -1300000 ≤ f x ∧ f x ≤ 1300000) : 0 ≤ gap f a st T ∧ gap f a st T ≤ 400000000 := by
  obtain ⟨b1, b2, b3⟩ := frm_bd ha hs
  have f1 := hf _ b1.1 (by omega)
  have f2 := hf _ b3.1 b3.2
  have f3 := hf a ha.1 ha.2
  have m1 := mul_ab (B := 60) f1 (y := spa a st T) (by omega)
  have m2 := mul_ab (x := f (too a st T) - f (frm a st)) (A := 2600000) (B := 60) (y := a - frm a st) (by omega) (by omega)
  have m3 := mul_ab (B := 60) f3 (y := spa a st T) (by omega)
  exact ab_bd (by omega)
section C9
variable (l : Launch) (p : PS) (rj : RJ) (g : RR) (q q2 : Int × Int) (co : Int → Int)
theorem lp_C_takeSamples (h : PV p) (hn : 0 < p.t.2.2.2) : ∀ (d : Nat) (i : Int) (s : SS) (w : WW) (sm : Int → Int), Jw p.t w i → (∀ a k u, Dn p.t w a k u → sm a = sV p.t p.s a) → 375 - i < d → Z (l, M_C_takeSamples, R_C_takeSamples, (0, 0), false, zAv (fun m => ∃ s' w' sm', m = eC p rj s' w' g q q2 sm' co ∧ ∀ a, 0 ≤ a → a ≤ tot p.t → sm' a = sV p.t p.s a)) 0 0 (eC p rj s w g q q2 sm co) 13 [(0, .ref 0), (1, .int (iI i))] [] := by
  have ht := h.1.2.1
  intro d
  induction d with
  | zero => intro i s w sm hJ h1 hd; exfalso; have := Jw_bd h.1 hJ; omega
  | succ d ih =>
    intro i s w sm hJ h1 hd
    have hi := Jw_bd h.1 hJ
    refine Z_iload_n 7 rfl rfl rfl ?_
    refine Z_sipush 8 rfl rfl ?_
    refine Z_icmp_ge 9 rfl (tgt := 85) rfl (by omega) (by omega) (fun c17 => ?_) (fun c17 => ?_)
    · exfalso; omega
    refine Z_aload_n 10 rfl rfl rfl ?_
    refine Z_get 11 rfl f_C_60 rfl rfl ?_
    refine Z_aload_n 12 rfl rfl rfl ?_
    refine Z_get 13 rfl f_C_14 rfl rfl ?_
    refine Z_aload_n 14 rfl rfl rfl ?_
    refine Z_get 15 rfl f_C_53 rfl rfl ?_
    refine Z_callVb (M' := M_K_goOn) 16 [21, 1, 2, 3, 4, 20] rfl l_C_231 C_K_goOn (c_K_goOn l p.t h.1 s w i hJ) ⟨by decide, (zEL.c (Or.inl rfl) (zEL.c (Or.inl rfl) (zEL.c (Or.inl rfl) (zEL.c (Or.inl rfl) (zEL.c (Or.inl rfl) (zEL.c (Or.inl rfl) zEL.n))))))⟩ (Or.inl ⟨_, _, _, _, rfl, rfl⟩) rfl rfl rfl (Nat.le_of_ble_eq_true rfl) ⟨rfl, rfl, Nat.le_of_ble_eq_true rfl, Nat.le_of_ble_eq_true rfl⟩ ⟨Nat.zero_le _, Nat.zero_le _⟩ (fun out hq => ?_)
    obtain rfl := hq
    refine Z_mem (show _ = eC p rj (nsp p.t w s) (nx p.t w) g q q2 sm co from rfl) ?_
    refine Z_ifb_eq 17 rfl (tgt := 85) rfl (fun c35 => ?_) (fun c35 => ?_)
    · refine Z_vret 39 rfl rfl ⟨Nat.le_refl _, Nat.le_refl _⟩ ?_
      exact ⟨rfl, _, _, sm, rfl, fun a a1 a2 => by
        obtain ⟨k2, u2, hv2⟩ := Vis_ex h.1 hn a1 a2
        exact h1 a k2 u2 ((Dn_end h.1 hJ c35).mpr hv2)⟩
    · obtain ⟨kk, uu, hV, hsp, hD, hO⟩ := wk_step h.1 hJ c35 s
      rw [hsp]
      have hI := Vis_in h.1 hV
      have hbd := pl_bd h.1 hI.1 hI.2.1
      refine Z_aload_n 18 rfl rfl rfl ?_
      refine Z_get 19 rfl f_C_60 rfl rfl ?_
      refine Z_getN 20 rfl f_C_235 rfl rfl ?_
      refine Z_if_lt 21 rfl (tgt := 79) rfl (by omega) (fun c45 => ?_) (fun c45 => ?_)
      · exfalso; omega
      refine Z_aload_n 22 rfl rfl rfl ?_
      refine Z_get 23 rfl f_C_60 rfl rfl ?_
      refine Z_getN 24 rfl f_C_235 rfl rfl ?_
      refine Z_aload_n 25 rfl rfl rfl ?_
      refine Z_get 26 rfl f_C_81 rfl rfl ?_
      refine Z_alL 27 rfl rfl ?_
      refine Z_icmp_ge 28 rfl (tgt := 79) rfl (by omega) (by omega) (fun c60 => ?_) (fun c60 => ?_)
      · exfalso; omega
      refine Z_aload_n 29 rfl rfl rfl ?_
      refine Z_get 30 rfl f_C_81 rfl rfl ?_
      refine Z_aload_n 31 rfl rfl rfl ?_
      refine Z_get 32 rfl f_C_60 rfl rfl ?_
      refine Z_getN 33 rfl f_C_235 rfl rfl ?_
      refine Z_aload_n 34 rfl rfl rfl ?_
      refine Z_callVlp (M' := M_C_sampleHere) 35 isC rfl l_C_293 C_C_sampleHere (c_C_sampleHere l p rj (pl p.t kk uu) (nx p.t w) g q q2 sm co h hbd) (emC ..) (Or.inl ⟨_, _, _, _, rfl, rfl⟩) rfl rfl rfl (Nat.le_of_ble_eq_true rfl) ⟨rfl, rfl, Nat.le_of_ble_eq_true rfl, Nat.le_of_ble_eq_true rfl⟩ ⟨Nat.zero_le _, Nat.zero_le _⟩ ?_
      refine Z_las 36 rfl rfl (by omega) (by decide) (mem' := eC p rj (pl p.t kk uu) (nx p.t w) g q q2 (uI sm (nx p.t w).1 (smp (pl p.t kk uu) (p.s 5))) co) rfl ?_
      refine Z_iinc 37 rfl rfl (Nat.le_of_ble_eq_true rfl) (lv' := [(1, .int _), (0, .ref _)]) rfl ?_
      refine Z_goto 38 rfl (tgt := 13) rfl ?_
      refine Z_pick [0, 1] (lv' := [(0, .ref _), (1, .int _)]) rfl ?_
      exact ih (i + 1) _ _ _ (Jw_s h.1 hJ c35) (fun a k u hd2 => by
        by_cases e : a = (nx p.t w).1
        · rw [e, uI_s]
          exact Vis_sV h.1 p.s hV
        · rw [uI_n _ _ e]
          rcases (hD a k u).mp hd2 with z | z
          · exact h1 a k u z
          · exact absurd z.1 e) (by omega)
theorem c_C_takeSamples (h : PV p) (hn : 0 < p.t.2.2.2) (s : SS) (w : WW) (sm : Int → Int) : Con l M_C_takeSamples R_C_takeSamples 0 0 false [.ref 0] (eC p rj s w g q q2 sm co) (zAv (fun m => ∃ s' w' sm', m = eC p rj s' w' g q q2 sm' co ∧ ∀ a, 0 ≤ a → a ≤ tot p.t → sm' a = sV p.t p.s a)) := by
  refine Con.of_Z (by decide) D_C_takeSamples (Nat.le_of_ble_eq_true rfl) ?_
  refine Z_aload_n 0 rfl rfl rfl ?_
  refine Z_get 1 rfl f_C_60 rfl rfl ?_
  refine Z_aload_n 2 rfl rfl rfl ?_
  refine Z_get 3 rfl f_C_14 rfl rfl ?_
  refine Z_callVv (M' := M_K_start) 4 [21, 1, 2, 3, 4] rfl l_C_227 C_K_start (c_K_start l p.t h.1.1 w) ⟨by decide, (zEL.c (Or.inl rfl) (zEL.c (Or.inl rfl) (zEL.c (Or.inl rfl) (zEL.c (Or.inl rfl) (zEL.c (Or.inl rfl) zEL.n)))))⟩ (Or.inl ⟨_, _, _, _, rfl, rfl⟩) rfl rfl rfl (Nat.le_of_ble_eq_true rfl) ⟨rfl, rfl, Nat.le_of_ble_eq_true rfl, Nat.le_of_ble_eq_true rfl⟩ ⟨Nat.zero_le _, Nat.zero_le _⟩ (fun out hq => ?_)
  obtain rfl := hq
  refine Z_mem (show _ = eC p rj s (wk0 p.t) g q q2 sm co from rfl) ?_
  refine Z_iconst 5 rfl ?_
  refine Z_istore_n 6 rfl rfl (Nat.le_of_ble_eq_true rfl) (lv' := [(1, .int _), (0, .ref _)]) rfl ?_
  refine Z_pick [0, 1] (lv' := [(0, .ref _), (1, .int _)]) rfl ?_
  exact lp_C_takeSamples l p rj g q q2 co h hn 376 0 s (wk0 p.t) sm (Jw_0 h.1) (Dn_all0 h.1 _) (by omega)
theorem c_C_sampleAt (s : SS) (w : WW) (sm : Int → Int) (a : Int) (ha : 0 ≤ a ∧ a ≤ 360) : Con l M_C_sampleAt R_C_sampleAt 0 0 false [.ref 0, .int (iI a)] (eC p rj s w g q q2 sm co) (zAl (sm a) (fun m => m = eC p rj s w g q q2 sm co)) := by
  refine Con.of_Z (by decide) D_C_sampleAt (Nat.le_of_ble_eq_true rfl) ?_
  refine Z_iload_n 0 rfl rfl rfl ?_
  refine Z_if_lt 1 rfl (tgt := 22) rfl (by omega) (fun c1 => ?_) (fun c1 => ?_)
  · exfalso; omega
  refine Z_iload_n 2 rfl rfl rfl ?_
  refine Z_aload_n 3 rfl rfl rfl ?_
  refine Z_get 4 rfl f_C_81 rfl rfl ?_
  refine Z_alL 5 rfl rfl ?_
  refine Z_icmp_ge 6 rfl (tgt := 22) rfl (by omega) (by omega) (fun c10 => ?_) (fun c10 => ?_)
  · exfalso; omega
  refine Z_aload_n 7 rfl rfl rfl ?_
  refine Z_get 8 rfl f_C_81 rfl rfl ?_
  refine Z_iload_n 9 rfl rfl rfl ?_
  refine Z_la 10 rfl rfl (by omega) (by decide) ?_
  refine Z_goto 11 rfl (tgt := 23) rfl ?_
  refine Z_lret 13 rfl rfl ⟨Nat.le_refl _, Nat.le_refl _⟩ ?_
  exact ⟨rfl, rfl⟩
theorem c_C_spanAt (a st T : Int) (ha : 0 ≤ a ∧ a ≤ T) (hT : T ≤ 360) (hs : 1 ≤ st ∧ st ≤ 60) : Con l M_C_spanAt R_C_spanAt 0 0 false [.int (iI a), .int (iI st), .int (iI T)] [] (zAi (spa a st T) (fun m => m = [])) := by
  have hb := frm_bd ha hs
  have e0 : a - a.tmod st = frm a st := rfl
  refine Con.of_Z (by decide) D_C_spanAt (Nat.le_of_ble_eq_true rfl) ?_
  refine Z_iload_n 0 rfl rfl rfl ?_
  refine Z_iconst 1 rfl ?_
  refine Z_icmp_ge 2 rfl (tgt := 7) rfl (by omega) (by omega) (fun c2 => ?_) (fun c2 => ?_)
  rotate_left
  · exfalso; omega
  refine Z_iload_n 5 rfl rfl rfl ?_
  refine Z_iload_n 6 rfl rfl rfl ?_
  refine Z_iload_n 7 rfl rfl rfl ?_
  refine Z_irem 8 rfl (by omega) (by omega) (by omega) ?_
  refine Z_isub 9 rfl ?_
  refine Z_ci e0 ?_
  refine Z_istore_n 10 rfl rfl (Nat.le_of_ble_eq_true rfl) (lv' := [(3, .int _), (0, .int _), (1, .int _), (2, .int _)]) rfl ?_
  refine Z_iconst 11 rfl ?_
  refine Z_iload_n 12 rfl rfl rfl ?_
  refine Z_iload_n 13 rfl rfl rfl ?_
  refine Z_iload_n 14 rfl rfl rfl ?_
  refine Z_isub 15 rfl ?_
  refine Z_minI 16 rfl l_C_382 b_st_minI b_ini_Math b_cd_minI (by omega) (by omega) (Nat.le_of_ble_eq_true rfl) ⟨Nat.le_of_ble_eq_true rfl, Nat.zero_le _, Nat.zero_le _⟩ ?_
  refine Z_ci (show _ = mnm a st T from rfl) ?_
  refine Z_maxI 17 rfl l_C_385 b_st_maxI b_ini_Math b_cd_maxI (by omega) (by unfold mnm; split <;> omega) (Nat.le_of_ble_eq_true rfl) ⟨Nat.le_of_ble_eq_true rfl, Nat.zero_le _, Nat.zero_le _⟩ ?_
  refine Z_ci (show _ = spa a st T from rfl) ?_
  refine Z_iret 18 rfl rfl ⟨Nat.le_refl _, Nat.le_refl _⟩ ?_
  exact ⟨rfl, rfl⟩
theorem c_C_gapAt (s : SS) (w : WW) (sm : Int → Int) (a st T : Int) (ha : 0 ≤ a ∧ a ≤ T) (hT : T ≤ 360) (hs : 1 ≤ st ∧ st ≤ 60) (hf : ∀ x, 0 ≤ x → x ≤ T → -1300000 ≤ sm x ∧ sm x ≤ 1300000) : Con l M_C_gapAt R_C_gapAt 0 0 false [.ref 0, .int (iI a), .int (iI st), .int (iI T)] (eC p rj s w g q q2 sm co) (zAl (gap sm a st T) (fun m => m = eC p rj s w g q q2 sm co)) := by
  obtain ⟨b1, b2, b3⟩ := frm_bd ha hs
  have f1 := hf _ b1.1 (by omega)
  have f2 := hf _ b3.1 b3.2
  have f3 := hf a ha.1 ha.2
  have m1 := mul_ab (B := 60) f1 (y := spa a st T) (by omega)
  have m2 := mul_ab (x := sm (too a st T) - sm (frm a st)) (A := 2600000) (B := 60) (y := a - frm a st) (by omega) (by omega)
  have m3 := mul_ab (B := 60) f3 (y := spa a st T) (by omega)
  have e0 : a - a.tmod st = frm a st := rfl
  refine Con.of_Z (by decide) D_C_gapAt (Nat.le_of_ble_eq_true rfl) ?_
  refine Z_iload_n 0 rfl rfl rfl ?_
  refine Z_iconst 1 rfl ?_
  refine Z_icmp_ge 2 rfl (tgt := 7) rfl (by omega) (by omega) (fun c2 => ?_) (fun c2 => ?_)
  rotate_left
  · exfalso; omega
  refine Z_iload_n 5 rfl rfl rfl ?_
  refine Z_iload_n 6 rfl rfl rfl ?_
  refine Z_iload_n 7 rfl rfl rfl ?_
  refine Z_irem 8 rfl (by omega) (by omega) (by omega) ?_
  refine Z_isub 9 rfl ?_
  refine Z_ci e0 ?_
  refine Z_istore 10 rfl (Nat.le_of_ble_eq_true rfl) (lv' := [(4, .int _), (0, .ref _), (1, .int _), (2, .int _), (3, .int _)]) rfl ?_
  refine Z_iload_n 11 rfl rfl rfl ?_
  refine Z_iload_n 12 rfl rfl rfl ?_
  refine Z_iload_n 13 rfl rfl rfl ?_
  refine Z_callSip (M' := M_C_spanAt) 14 [] rfl l_C_303 C_C_spanAt (c_C_spanAt l a st T ha hT hs) ⟨List.nodup_nil, zEL.n⟩ rfl rfl rfl (Nat.le_of_ble_eq_true rfl) ⟨rfl, rfl, Nat.le_of_ble_eq_true rfl, Nat.le_of_ble_eq_true rfl⟩ ⟨Nat.zero_le _, Nat.zero_le _⟩ ?_
  refine Z_istore 15 rfl (Nat.le_of_ble_eq_true rfl) (lv' := [(5, .int _), (4, .int _), (0, .ref _), (1, .int _), (2, .int _), (3, .int _)]) rfl ?_
  refine Z_iload 16 rfl rfl ?_
  refine Z_iload 17 rfl rfl ?_
  refine Z_iadd 18 rfl ?_
  refine Z_iload_n 19 rfl rfl rfl ?_
  refine Z_minI 20 rfl l_C_382 b_st_minI b_ini_Math b_cd_minI (by omega) (by omega) (Nat.le_of_ble_eq_true rfl) ⟨Nat.le_of_ble_eq_true rfl, Nat.zero_le _, Nat.zero_le _⟩ ?_
  refine Z_ci (show _ = too a st T from rfl) ?_
  refine Z_istore 21 rfl (Nat.le_of_ble_eq_true rfl) (lv' := [(6, .int _), (5, .int _), (4, .int _), (0, .ref _), (1, .int _), (2, .int _), (3, .int _)]) rfl ?_
  refine Z_aload_n 22 rfl rfl rfl ?_
  refine Z_iload 23 rfl rfl ?_
  refine Z_callVlp (M' := M_C_sampleAt) 24 isC rfl l_C_388 C_C_sampleAt (c_C_sampleAt l p rj g q q2 co s w sm (frm a st) (by omega)) (emC ..) (Or.inl ⟨_, _, _, _, rfl, rfl⟩) rfl rfl rfl (Nat.le_of_ble_eq_true rfl) ⟨rfl, rfl, Nat.le_of_ble_eq_true rfl, Nat.le_of_ble_eq_true rfl⟩ ⟨Nat.zero_le _, Nat.zero_le _⟩ ?_
  refine Z_iload 25 rfl rfl ?_
  refine Z_i2l 26 rfl (by omega) ?_
  refine Z_lmul 27 rfl ?_
  refine Z_aload_n 28 rfl rfl rfl ?_
  refine Z_iload 29 rfl rfl ?_
  refine Z_callVlp (M' := M_C_sampleAt) 30 isC rfl l_C_388 C_C_sampleAt (c_C_sampleAt l p rj g q q2 co s w sm (too a st T) (by omega)) (emC ..) (Or.inl ⟨_, _, _, _, rfl, rfl⟩) rfl rfl rfl (Nat.le_of_ble_eq_true rfl) ⟨rfl, rfl, Nat.le_of_ble_eq_true rfl, Nat.le_of_ble_eq_true rfl⟩ ⟨Nat.zero_le _, Nat.zero_le _⟩ ?_
  refine Z_aload_n 31 rfl rfl rfl ?_
  refine Z_iload 32 rfl rfl ?_
  refine Z_callVlp (M' := M_C_sampleAt) 33 isC rfl l_C_388 C_C_sampleAt (c_C_sampleAt l p rj g q q2 co s w sm (frm a st) (by omega)) (emC ..) (Or.inl ⟨_, _, _, _, rfl, rfl⟩) rfl rfl rfl (Nat.le_of_ble_eq_true rfl) ⟨rfl, rfl, Nat.le_of_ble_eq_true rfl, Nat.le_of_ble_eq_true rfl⟩ ⟨Nat.zero_le _, Nat.zero_le _⟩ ?_
  refine Z_lsub 34 rfl ?_
  refine Z_iload_n 35 rfl rfl rfl ?_
  refine Z_iload 36 rfl rfl ?_
  refine Z_isub 37 rfl ?_
  refine Z_i2l 38 rfl (by omega) ?_
  refine Z_lmul 39 rfl ?_
  refine Z_ladd 40 rfl ?_
  refine Z_lstore 41 rfl (Nat.le_of_ble_eq_true rfl) (lv' := [(7, .long _), (6, .int _), (5, .int _), (4, .int _), (0, .ref _), (1, .int _), (2, .int _), (3, .int _)]) rfl ?_
  refine Z_lload 42 rfl rfl ?_
  refine Z_aload_n 43 rfl rfl rfl ?_
  refine Z_iload_n 44 rfl rfl rfl ?_
  refine Z_callVlp (M' := M_C_sampleAt) 45 isC rfl l_C_388 C_C_sampleAt (c_C_sampleAt l p rj g q q2 co s w sm a (by omega)) (emC ..) (Or.inl ⟨_, _, _, _, rfl, rfl⟩) rfl rfl rfl (Nat.le_of_ble_eq_true rfl) ⟨rfl, rfl, Nat.le_of_ble_eq_true rfl, Nat.le_of_ble_eq_true rfl⟩ ⟨Nat.zero_le _, Nat.zero_le _⟩ ?_
  refine Z_iload 46 rfl rfl ?_
  refine Z_i2l 47 rfl (by omega) ?_
  refine Z_lmul 48 rfl ?_
  refine Z_lsub 49 rfl ?_
  refine Z_absL 50 rfl l_C_250 b_st_absL b_ini_Math b_cd_absL (by omega) (Nat.le_of_ble_eq_true rfl) ⟨Nat.le_of_ble_eq_true rfl, Nat.zero_le _, Nat.zero_le _⟩ ?_
  refine Z_lret 51 rfl rfl ⟨Nat.le_refl _, Nat.le_refl _⟩ ?_
  exact ⟨rfl, rfl⟩
def erP (f : Int → Int) (T st e : Int) : Prop := ∀ a, 0 ≤ a → a ≤ T → 100 * gap f a st T ≤ e * spa a st T
theorem lp_C_isErrorWithin (h : PV p) (s : SS) (w : WW) (sm : Int → Int) (st e : Int) (he : 0 ≤ e ∧ e ≤ 9999) (hs : 1 ≤ st ∧ st ≤ 60) (hf : ∀ x, 0 ≤ x → x ≤ tot p.t → -1300000 ≤ sm x ∧ sm x ≤ 1300000) : ∀ (d : Nat) (a : Int), 0 ≤ a → a ≤ tot p.t + 1 → tot p.t + 1 - a < d → (∀ x, 0 ≤ x → x < a → 100 * gap sm x st (tot p.t) ≤ e * spa x st (tot p.t)) → Z (l, M_C_isErrorWithin, R_C_isErrorWithin, (0, 0), false, zAb (erP sm (tot p.t) st e) (fun m => m = eC p rj s w g q q2 sm co)) 0 0 (eC p rj s w g q q2 sm co) 11 [(0, .ref 0), (1, .int (iI st)), (2, .int (iI e)), (3, .int (iI (tot p.t))), (4, .int (iI a))] [] := by
  have ht := h.1.2.1
  intro d
  induction d with
  | zero => intro a h2 h3 h4; omega
  | succ d ih =>
    intro a h2 h3 h4 h5
    refine Z_iload 6 rfl rfl ?_
    refine Z_iload_n 7 rfl rfl rfl ?_
    refine Z_icmp_gt 8 rfl (tgt := 60) rfl (by omega) (by omega) (fun c14 => ?_) (fun c14 => ?_)
    · refine Z_iconst 33 rfl ?_
      refine Z_zret 34 rfl rfl rfl ⟨Nat.le_refl _, Nat.le_refl _⟩ ?_
      exact ⟨bT (fun x x1 x2 => h5 x x1 (by omega)), rfl⟩
    · refine Z_iload 9 rfl rfl ?_
      refine Z_sipush 10 rfl rfl ?_
      refine Z_icmp_gt 11 rfl (tgt := 60) rfl (by omega) (by omega) (fun c22 => ?_) (fun c22 => ?_)
      · exfalso; omega
      have g1 := gap_bd (f := sm) (a := a) (st := st) (T := tot p.t) (by omega) hs hf
      have g2 := frm_bd (a := a) (st := st) (T := tot p.t) (by omega) hs
      have g3 := mul_bd (x := e) (y := spa a st (tot p.t)) (A := 9999) (B := 60) he (by omega)
      refine Z_ldc2 12 rfl k_C_391 (c := 100) rfl ?_
      refine Z_aload_n 13 rfl rfl rfl ?_
      refine Z_iload 14 rfl rfl ?_
      refine Z_iload_n 15 rfl rfl rfl ?_
      refine Z_iload_n 16 rfl rfl rfl ?_
      refine Z_callVlp (M' := M_C_gapAt) 17 isC rfl l_C_299 C_C_gapAt (c_C_gapAt l p rj g q q2 co s w sm a st (tot p.t) (by omega) ht hs hf) (emC ..) (Or.inl ⟨_, _, _, _, rfl, rfl⟩) rfl rfl rfl (Nat.le_of_ble_eq_true rfl) ⟨rfl, rfl, Nat.le_of_ble_eq_true rfl, Nat.le_of_ble_eq_true rfl⟩ ⟨Nat.zero_le _, Nat.zero_le _⟩ ?_
      refine Z_lmul 18 rfl ?_
      refine Z_iload_n 19 rfl rfl rfl ?_
      refine Z_i2l 20 rfl (by omega) ?_
      refine Z_iload 21 rfl rfl ?_
      refine Z_iload_n 22 rfl rfl rfl ?_
      refine Z_iload_n 23 rfl rfl rfl ?_
      refine Z_callSip (M' := M_C_spanAt) 24 [] rfl l_C_303 C_C_spanAt (c_C_spanAt l a st (tot p.t) (by omega) ht hs) ⟨List.nodup_nil, zEL.n⟩ rfl rfl rfl (Nat.le_of_ble_eq_true rfl) ⟨rfl, rfl, Nat.le_of_ble_eq_true rfl, Nat.le_of_ble_eq_true rfl⟩ ⟨Nat.zero_le _, Nat.zero_le _⟩ ?_
      refine Z_i2l 25 rfl (by omega) ?_
      refine Z_lmul 26 rfl ?_
      refine Z_lc_le 27 rfl rfl (tgt := 54) rfl (by omega) (by omega) (fun c48 => ?_) (fun c48 => ?_)
      · refine Z_iinc 31 rfl rfl (Nat.le_of_ble_eq_true rfl) (lv' := [(4, .int _), (0, .ref _), (1, .int _), (2, .int _), (3, .int _)]) rfl ?_
        refine Z_goto 32 rfl (tgt := 11) rfl ?_
        refine Z_pick [0, 1, 2, 3, 4] (lv' := [(0, .ref _), (1, .int _), (2, .int _), (3, .int _), (4, .int _)]) rfl ?_
        exact ih (a + 1) (by omega) (by omega) (by omega) (fun x x1 x2 => by
          by_cases ex : x = a
          · rw [ex]; omega
          · exact h5 x x1 (by omega))
      · refine Z_iconst 29 rfl ?_
        refine Z_zret 30 rfl rfl rfl ⟨Nat.le_refl _, Nat.le_refl _⟩ ?_
        exact ⟨bF (fun z => by have := z a h2 (by omega); omega), rfl⟩
theorem c_C_isErrorWithin (h : PV p) (s : SS) (w : WW) (sm : Int → Int) (st e : Int) (he : 0 ≤ e ∧ e ≤ 9999) (hs : 1 ≤ st ∧ st ≤ 60) (hf : ∀ x, 0 ≤ x → x ≤ tot p.t → -1300000 ≤ sm x ∧ sm x ≤ 1300000) (h0 : 0 ≤ tot p.t) : Con l M_C_isErrorWithin R_C_isErrorWithin 0 0 false [.ref 0, .int (iI st), .int (iI e)] (eC p rj s w g q q2 sm co) (zAb (erP sm (tot p.t) st e) (fun m => m = eC p rj s w g q q2 sm co)) := by
  have ht := h.1.2.1
  refine Con.of_Z (by decide) D_C_isErrorWithin (Nat.le_of_ble_eq_true rfl) ?_
  refine Z_aload_n 0 rfl rfl rfl ?_
  refine Z_get 1 rfl f_C_14 rfl rfl ?_
  refine Z_callVip (M' := M_T_total) 2 [1, 2, 3, 4] rfl l_C_103 C_T_total (c_T_total l p.t h.1.1) ⟨by decide, (zEL.c (Or.inl rfl) (zEL.c (Or.inl rfl) (zEL.c (Or.inl rfl) (zEL.c (Or.inl rfl) zEL.n))))⟩ (Or.inl ⟨_, _, _, _, rfl, rfl⟩) rfl rfl rfl (Nat.le_of_ble_eq_true rfl) ⟨rfl, rfl, Nat.le_of_ble_eq_true rfl, Nat.le_of_ble_eq_true rfl⟩ ⟨Nat.zero_le _, Nat.zero_le _⟩ ?_
  refine Z_istore_n 3 rfl rfl (Nat.le_of_ble_eq_true rfl) (lv' := [(3, .int _), (0, .ref _), (1, .int _), (2, .int _)]) rfl ?_
  refine Z_iconst 4 rfl ?_
  refine Z_istore 5 rfl (Nat.le_of_ble_eq_true rfl) (lv' := [(4, .int _), (3, .int _), (0, .ref _), (1, .int _), (2, .int _)]) rfl ?_
  refine Z_pick [0, 1, 2, 3, 4] (lv' := [(0, .ref _), (1, .int _), (2, .int _), (3, .int _), (4, .int _)]) rfl ?_
  exact lp_C_isErrorWithin l p rj g q q2 co h s w sm st e he hs hf 362 0 (by omega) (by omega) (by omega) (fun x x1 x2 => by omega)
end C9
