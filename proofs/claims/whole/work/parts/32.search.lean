/-! CamPieces: what it is in thought -/
def EC (rj : RJ) (p : PS) : List zE → Prop := fun m => ∃ s w g q q2 sm co, m = eC p rj s w g q q2 sm co
theorem wk_ge {t : TT} {w : WW} {i : Int} (h : TV t) (hJ : Jw t w i) (hm : mo t w) {a k u : Int} (hV : Vis t a k u) : Dn t w a k u ∨ (nx t w).1 ≤ a := by
  have h1 := h.1.1
  have hVi := Vis_in h hV
  obtain ⟨hc, hJ⟩ := hJ
  unfold mo at hm
  have e0 : tot t = bg t t.2.2.2 := rfl
  rcases hJ with hx | hx | hx | hx
  · refine Or.inr ?_
    rw [nx_1 (by omega)]
    show w.1 ≤ a
    omega
  · have e1 : (nx t w).1 = w.2.2.1 + w.2.2.2.2.1 := by
      rw [nx_2 (by omega) (by omega)]
      unfold stp1
      split <;> rfl
    rw [e1]
    have b1 := bg_mono h.1 (show 0 ≤ w.2.1 + 1 by omega) (show w.2.1 + 1 ≤ t.2.2.2 by omega)
    rw [bg_s t hx.1] at b1
    rcases hV with hV | ⟨v1, v2, hV | hV⟩
    · rcases Int.lt_trichotomy k w.2.1 with hk | hk | hk
      · exact Or.inl (Or.inr (Or.inl ⟨hV.1, hV.2.1, hV.2.2.1, hV.2.2.2.1, hV.2.2.2.2, Or.inl hk⟩))
      · by_cases hu : u < w.2.2.2.2.1
        · exact Or.inl (Or.inr (Or.inl ⟨hV.1, hV.2.1, hV.2.2.1, hV.2.2.2.1, hV.2.2.2.2, Or.inr ⟨hk, hu⟩⟩))
        · refine Or.inr ?_
          rw [hk] at hV
          omega
      · refine Or.inr ?_
        have b2 := bg_mono h.1 (show 0 ≤ w.2.1 + 1 by omega) (show w.2.1 + 1 ≤ k by omega)
        rw [bg_s t hx.1] at b2
        omega
    · refine Or.inl (Or.inl ⟨by omega, ?_, hV⟩)
      rcases hc with hc | hc
      · exact hc.1
      · exact absurd v1 hc.2
    · exact Or.inr (by omega)
  · have e1 : (nx t w).1 = w.1 := by rw [nx_3 (by omega) (by omega) (by omega)]
    rw [e1]
    rcases hV with hV | ⟨v1, v2, hV | hV⟩
    · exact Or.inl (Or.inr (Or.inl ⟨hV.1, hV.2.1, hV.2.2.1, hV.2.2.2.1, hV.2.2.2.2, Or.inl (by omega)⟩))
    · exact Or.inl (Or.inl ⟨by omega, by omega, hV⟩)
    · exact Or.inr (by omega)
  · exfalso
    omega
theorem Dn_all {t : TT} {w w' : WW} {aa kk uu : Int} (hD : ∀ a k u, Dn t w' a k u ↔ (Dn t w a k u ∨ (a = aa ∧ k = kk ∧ u = uu))) (Q : Int → Int → Int → Prop) : (∀ a k u, Dn t w' a k u → Q a k u) ↔ ((∀ a k u, Dn t w a k u → Q a k u) ∧ Q aa kk uu) := by
  constructor
  · intro hz
    exact ⟨fun a k u hd => hz a k u ((hD a k u).mpr (Or.inl hd)), hz aa kk uu ((hD aa kk uu).mpr (Or.inr ⟨rfl, rfl, rfl⟩))⟩
  · rintro ⟨h1, h2⟩ a k u hd
    rcases (hD a k u).mp hd with hd | ⟨e1, e2, e3⟩
    · exact h1 a k u hd
    · rw [e1, e2, e3]
      exact h2
theorem Dn_allE {t : TT} {w : WW} {i : Int} (h : TV t) (hJ : Jw t w i) (hm : ¬ mo t w) (Q : Int → Int → Int → Prop) : (∀ a k u, Dn t w a k u → Q a k u) ↔ (∀ a k u, Vis t a k u → Q a k u) :=
  ⟨fun hz a k u hv => hz a k u ((Dn_end h hJ hm).mpr hv), fun hz a k u hd => hz a k u ((Dn_end h hJ hm).mp hd)⟩
theorem Dn_all0 {t : TT} (h : TV t) (Q : Int → Int → Int → Prop) : ∀ a k u, Dn t (wk0 t) a k u → Q a k u := fun _ _ _ hd => absurd hd (Dn_0 h)
def radP (t : TT) (x : Int) : Prop := 1 ≤ x ∧ x ≤ 999 ∧ ∀ a k u, Vis t a k u → 0 < (lf (pl t k u) + 3249 * (pl t k u).2.2.2.1) + (pl t k u).1 * x
def preP (t : TT) (S : Int → Int) (x : Int) : Prop := 0 ≤ x ∧ x ≤ 9999 ∧ ∀ a k u, Vis t a k u → 0 < (spr S (pl t k u) + ine S (pl t k u)) + (pl t k u).1 * x
def stiP (t : TT) (S : Int → Int) (x : Int) : Prop := 0 ≤ x ∧ x ≤ 99 ∧ ∀ a k u, Vis t a k u → 0 < (prl S (pl t k u) + ine S (pl t k u)) + lf (pl t k u) * x
def fasP (t : TT) (S : Int → Int) (x : Int) : Prop := 0 ≤ x ∧ x ≤ 30 ∧ ∀ a k u, Vis t a k u → 0 < (prl S (pl t k u) + spr S (pl t k u)) + S 1 * 3249 * (pl t k u).2.2.2.1 * (x * x)
def genP (t : TT) (n x : Int) : Prop := 1 ≤ x ∧ x ≤ 999 ∧ ∀ a k u, Vis t a k u → 0 < lf (pl t k u) + (pl t k u).1 * x ∧ 0 < (n * lf (pl t k u) - 5700 * ab (pl t k u).2.2.1 + 1) + n * (pl t k u).1 * x
def floP (t : TT) (S : Int → Int) (x : Int) : Prop := ∃ k u, Vis t x k u ∧ frc S (pl t k u) ≤ 0
noncomputable def gentleF (t : TT) (n : Int) : Int := cif (0 ≤ n ∧ n ≤ 999) (lstA (genP t n)) (-2)
theorem RB_0 {x y : Int} (hx : inL x) (hy : inL y) : RB (x, y, 0) := ⟨hx, hy, Or.inl rfl⟩
section C4
variable (l : Launch) (p : PS) (rj : RJ) (q q2 : Int × Int) (sm co : Int → Int)
theorem lp_C_leastRadius (h : PV p) : ∀ (d : Nat) (i : Int) (s : SS) (w : WW) (g : RR), Jw p.t w i → RB g → (∀ x, InR g x ↔ (1 ≤ x ∧ x ≤ 999 ∧ ∀ a k u, Dn p.t w a k u → 0 < (lf (pl p.t k u) + 3249 * (pl p.t k u).2.2.2.1) + (pl p.t k u).1 * x)) → 375 - i < d → Z (l, M_C_leastRadius, R_C_leastRadius, (0, 0), false, zAi (lstA (radP p.t)) (EC rj p)) 0 0 (eC p rj s w g q q2 sm co) 36 [(0, .ref 0), (1, .int (iI i))] [] := by
  intro d
  induction d with
  | zero => intro i s w g hJ hg hinv hd; exfalso; have := Jw_bd h.1 hJ; omega
  | succ d ih =>
    intro i s w g hJ hg hinv hd
    have hi := Jw_bd h.1 hJ
    refine Z_iload_n 18 rfl rfl rfl ?_
    refine Z_sipush 19 rfl rfl ?_
    refine Z_icmp_ge 20 rfl (tgt := 100) rfl (by omega) (by omega) (fun c40 => ?_) (fun c40 => ?_)
    · exfalso; omega
    refine Z_aload_n 21 rfl rfl rfl ?_
    refine Z_get 22 rfl f_C_60 rfl rfl ?_
    refine Z_aload_n 23 rfl rfl rfl ?_
    refine Z_get 24 rfl f_C_14 rfl rfl ?_
    refine Z_aload_n 25 rfl rfl rfl ?_
    refine Z_get 26 rfl f_C_53 rfl rfl ?_
    refine Z_callVb (M' := M_K_goOn) 27 [21, 1, 2, 3, 4, 20] rfl l_C_231 C_K_goOn (c_K_goOn l p.t h.1 s w i hJ) ⟨by decide, (zEL.c (Or.inl rfl) (zEL.c (Or.inl rfl) (zEL.c (Or.inl rfl) (zEL.c (Or.inl rfl) (zEL.c (Or.inl rfl) (zEL.c (Or.inl rfl) zEL.n))))))⟩ (Or.inl ⟨_, _, _, _, rfl, rfl⟩) rfl rfl rfl (Nat.le_of_ble_eq_true rfl) ⟨rfl, rfl, Nat.le_of_ble_eq_true rfl, Nat.le_of_ble_eq_true rfl⟩ ⟨Nat.zero_le _, Nat.zero_le _⟩ (fun out hq => ?_)
    obtain rfl := hq
    refine Z_mem (show _ = eC p rj (nsp p.t w s) (nx p.t w) g q q2 sm co from rfl) ?_
    refine Z_ifb_eq 28 rfl (tgt := 100) rfl (fun c58 => ?_) (fun c58 => ?_)
    · refine Z_aload_n 46 rfl rfl rfl ?_
      refine Z_get 47 rfl f_C_67 rfl rfl ?_
      refine Z_callVip (M' := M_R_leastOne) 48 [22] rfl l_C_247 C_R_leastOne (c_R_leastOne l g hg) ⟨by decide, (zEL.c (Or.inl rfl) zEL.n)⟩ (Or.inl ⟨_, _, _, _, rfl, rfl⟩) rfl rfl rfl (Nat.le_of_ble_eq_true rfl) ⟨rfl, rfl, Nat.le_of_ble_eq_true rfl, Nat.le_of_ble_eq_true rfl⟩ ⟨Nat.zero_le _, Nat.zero_le _⟩ ?_
      refine Z_iret 49 rfl rfl ⟨Nat.le_refl _, Nat.le_refl _⟩ ?_
      exact ⟨by rw [lstA_eq (lst_is (P := radP p.t) (fun x => by unfold radP; rw [hinv x, Dn_allE h.1 hJ c58 (fun _ k u => 0 < (lf (pl p.t k u) + 3249 * (pl p.t k u).2.2.2.1) + (pl p.t k u).1 * x)]))], _, _, _, _, _, _, _, rfl⟩
    · obtain ⟨kk, uu, hV, hsp, hD, hO⟩ := wk_step h.1 hJ c58 s
      rw [hsp]
      have hI := Vis_in h.1 hV
      have hbd := pl_bd h.1 hI.1 hI.2.1
      have hb2 := sb_bd h.2.1 hbd
      have hb0 := hbd
      unfold SBd at hbd
      refine Z_aload_n 29 rfl rfl rfl ?_
      refine Z_get 30 rfl f_C_67 rfl rfl ?_
      refine Z_aload_n 31 rfl rfl rfl ?_
      refine Z_get 32 rfl f_C_53 rfl rfl ?_
      refine Z_callVlp (M' := M_S_lift) 33 [20] rfl l_C_184 C_S_lift (c_S_lift l (pl p.t kk uu)) ⟨by decide, (zEL.c (Or.inl rfl) zEL.n)⟩ (Or.inl ⟨_, _, _, _, rfl, rfl⟩) rfl rfl rfl (Nat.le_of_ble_eq_true rfl) ⟨rfl, rfl, Nat.le_of_ble_eq_true rfl, Nat.le_of_ble_eq_true rfl⟩ ⟨Nat.zero_le _, Nat.zero_le _⟩ ?_
      refine Z_ldc2 34 rfl k_C_242 (c := 3249) rfl ?_
      refine Z_aload_n 35 rfl rfl rfl ?_
      refine Z_get 36 rfl f_C_53 rfl rfl ?_
      refine Z_getN 37 rfl f_C_192 rfl rfl ?_
      refine Z_lmul 38 rfl ?_
      refine Z_ladd 39 rfl ?_
      refine Z_aload_n 40 rfl rfl rfl ?_
      refine Z_get 41 rfl f_C_53 rfl rfl ?_
      refine Z_getN 42 rfl f_C_195 rfl rfl ?_
      refine Z_callVv (M' := M_R_keepAboveZero) 43 [22] rfl l_C_244 C_R_keepAboveZero (c_R_keep l g ((lf (pl p.t kk uu) + 3249 * (pl p.t kk uu).2.2.2.1)) ((pl p.t kk uu).1) hg (by omega) (by omega)) ⟨by decide, (zEL.c (Or.inl rfl) zEL.n)⟩ (Or.inl ⟨_, _, _, _, rfl, rfl⟩) rfl rfl rfl (Nat.le_of_ble_eq_true rfl) ⟨rfl, rfl, Nat.le_of_ble_eq_true rfl, Nat.le_of_ble_eq_true rfl⟩ ⟨Nat.zero_le _, Nat.zero_le _⟩ (fun out hq => ?_)
      obtain rfl := hq
      refine Z_mem (show _ = eC p rj (pl p.t kk uu) (nx p.t w) (kp g ((lf (pl p.t kk uu) + 3249 * (pl p.t kk uu).2.2.2.1)) ((pl p.t kk uu).1)) q q2 sm co from rfl) ?_
      refine Z_iinc 44 rfl rfl (Nat.le_of_ble_eq_true rfl) (lv' := [(1, .int _), (0, .ref _)]) rfl ?_
      refine Z_goto 45 rfl (tgt := 36) rfl ?_
      refine Z_pick [0, 1] (lv' := [(0, .ref _), (1, .int _)]) rfl ?_
      exact ih (i + 1) _ _ _ (Jw_s h.1 hJ c58) (kp_bd hg (by omega) (by omega)) (fun x => by rw [kp_in _ _ _ _ hg.2.2, hinv x, Dn_all hD (fun _ k u => 0 < (lf (pl p.t k u) + 3249 * (pl p.t k u).2.2.2.1) + (pl p.t k u).1 * x)]; simp only [and_assoc]) (by omega)
theorem c_C_leastRadius (h : PV p) (s : SS) (w : WW) (g : RR) : Con l M_C_leastRadius R_C_leastRadius 0 0 false [.ref 0] (eC p rj s w g q q2 sm co) (zAi (lstA (radP p.t)) (EC rj p)) := by
  refine Con.of_Z (by decide) D_C_leastRadius (Nat.le_of_ble_eq_true rfl) ?_
  refine Z_aload_n 0 rfl rfl rfl ?_
  refine Z_get 1 rfl f_C_67 rfl rfl ?_
  refine Z_gets (q := 27) 2 rfl f_C_145 rfl List.mem_cons_self ?_
  refine Z_iconst 3 rfl ?_
  refine Z_callSip (M' := M_C_pick) 4 [28] rfl l_C_148 C_C_pick (pick_in l 6 (by omega) leF 0 (by omega)) ⟨by decide, (zEL.c (Or.inl rfl) zEL.n)⟩ rfl rfl rfl (Nat.le_of_ble_eq_true rfl) ⟨rfl, rfl, Nat.le_of_ble_eq_true rfl, Nat.le_of_ble_eq_true rfl⟩ ⟨Nat.zero_le _, Nat.zero_le _⟩ ?_
  refine Z_ci (show leF 0 = 1 from rfl) ?_
  refine Z_i2l 5 rfl (by omega) ?_
  refine Z_gets (q := 27) 6 rfl f_C_152 rfl (List.mem_cons_of_mem _ List.mem_cons_self) ?_
  refine Z_iconst 7 rfl ?_
  refine Z_callSip (M' := M_C_pick) 8 [29] rfl l_C_148 C_C_pick (pick_in l 6 (by omega) moF 0 (by omega)) ⟨by decide, (zEL.c (Or.inl rfl) zEL.n)⟩ rfl rfl rfl (Nat.le_of_ble_eq_true rfl) ⟨rfl, rfl, Nat.le_of_ble_eq_true rfl, Nat.le_of_ble_eq_true rfl⟩ ⟨Nat.zero_le _, Nat.zero_le _⟩ ?_
  refine Z_ci (show moF 0 = 999 from rfl) ?_
  refine Z_i2l 9 rfl (by omega) ?_
  refine Z_callVv (M' := M_R_open) 10 [22] rfl l_C_238 C_R_open (c_R_open l g 1 999) ⟨by decide, (zEL.c (Or.inl rfl) zEL.n)⟩ (Or.inl ⟨_, _, _, _, rfl, rfl⟩) rfl rfl rfl (Nat.le_of_ble_eq_true rfl) ⟨rfl, rfl, Nat.le_of_ble_eq_true rfl, Nat.le_of_ble_eq_true rfl⟩ ⟨Nat.zero_le _, Nat.zero_le _⟩ (fun out hq => ?_)
  obtain rfl := hq
  refine Z_mem (show _ = eC p rj s w (1, 999, 0) q q2 sm co from rfl) ?_
  refine Z_aload_n 11 rfl rfl rfl ?_
  refine Z_get 12 rfl f_C_60 rfl rfl ?_
  refine Z_aload_n 13 rfl rfl rfl ?_
  refine Z_get 14 rfl f_C_14 rfl rfl ?_
  refine Z_callVv (M' := M_K_start) 15 [21, 1, 2, 3, 4] rfl l_C_227 C_K_start (c_K_start l p.t h.1.1 w) ⟨by decide, (zEL.c (Or.inl rfl) (zEL.c (Or.inl rfl) (zEL.c (Or.inl rfl) (zEL.c (Or.inl rfl) (zEL.c (Or.inl rfl) zEL.n)))))⟩ (Or.inl ⟨_, _, _, _, rfl, rfl⟩) rfl rfl rfl (Nat.le_of_ble_eq_true rfl) ⟨rfl, rfl, Nat.le_of_ble_eq_true rfl, Nat.le_of_ble_eq_true rfl⟩ ⟨Nat.zero_le _, Nat.zero_le _⟩ (fun out hq => ?_)
  obtain rfl := hq
  refine Z_mem (show _ = eC p rj s (wk0 p.t) (1, 999, 0) q q2 sm co from rfl) ?_
  refine Z_iconst 16 rfl ?_
  refine Z_istore_n 17 rfl rfl (Nat.le_of_ble_eq_true rfl) (lv' := [(1, .int _), (0, .ref _)]) rfl ?_
  refine Z_pick [0, 1] (lv' := [(0, .ref _), (1, .int _)]) rfl ?_
  exact lp_C_leastRadius l p rj q q2 sm co h 376 0 s (wk0 p.t) (1, 999, 0) (Jw_0 h.1) (RB_0 (by omega) (by omega)) (fun x => ⟨fun hz => ⟨hz.2.1, hz.2.2, Dn_all0 h.1 _⟩, fun hz => ⟨rfl, hz.1, hz.2.1⟩⟩) (by omega)
theorem lp_C_leastPreload (h : PV p) : ∀ (d : Nat) (i : Int) (s : SS) (w : WW) (g : RR), Jw p.t w i → RB g → (∀ x, InR g x ↔ (0 ≤ x ∧ x ≤ 9999 ∧ ∀ a k u, Dn p.t w a k u → 0 < (spr p.s (pl p.t k u) + ine p.s (pl p.t k u)) + (pl p.t k u).1 * x)) → 375 - i < d → Z (l, M_C_leastPreload, R_C_leastPreload, (0, 0), false, zAi (lstA (preP p.t p.s)) (EC rj p)) 0 0 (eC p rj s w g q q2 sm co) 36 [(0, .ref 0), (1, .int (iI i))] [] := by
  intro d
  induction d with
  | zero => intro i s w g hJ hg hinv hd; exfalso; have := Jw_bd h.1 hJ; omega
  | succ d ih =>
    intro i s w g hJ hg hinv hd
    have hi := Jw_bd h.1 hJ
    refine Z_iload_n 18 rfl rfl rfl ?_
    refine Z_sipush 19 rfl rfl ?_
    refine Z_icmp_ge 20 rfl (tgt := 90) rfl (by omega) (by omega) (fun c40 => ?_) (fun c40 => ?_)
    · exfalso; omega
    refine Z_aload_n 21 rfl rfl rfl ?_
    refine Z_get 22 rfl f_C_60 rfl rfl ?_
    refine Z_aload_n 23 rfl rfl rfl ?_
    refine Z_get 24 rfl f_C_14 rfl rfl ?_
    refine Z_aload_n 25 rfl rfl rfl ?_
    refine Z_get 26 rfl f_C_53 rfl rfl ?_
    refine Z_callVb (M' := M_K_goOn) 27 [21, 1, 2, 3, 4, 20] rfl l_C_231 C_K_goOn (c_K_goOn l p.t h.1 s w i hJ) ⟨by decide, (zEL.c (Or.inl rfl) (zEL.c (Or.inl rfl) (zEL.c (Or.inl rfl) (zEL.c (Or.inl rfl) (zEL.c (Or.inl rfl) (zEL.c (Or.inl rfl) zEL.n))))))⟩ (Or.inl ⟨_, _, _, _, rfl, rfl⟩) rfl rfl rfl (Nat.le_of_ble_eq_true rfl) ⟨rfl, rfl, Nat.le_of_ble_eq_true rfl, Nat.le_of_ble_eq_true rfl⟩ ⟨Nat.zero_le _, Nat.zero_le _⟩ (fun out hq => ?_)
    obtain rfl := hq
    refine Z_mem (show _ = eC p rj (nsp p.t w s) (nx p.t w) g q q2 sm co from rfl) ?_
    refine Z_ifb_eq 28 rfl (tgt := 90) rfl (fun c58 => ?_) (fun c58 => ?_)
    · refine Z_aload_n 42 rfl rfl rfl ?_
      refine Z_get 43 rfl f_C_67 rfl rfl ?_
      refine Z_callVip (M' := M_R_leastOne) 44 [22] rfl l_C_247 C_R_leastOne (c_R_leastOne l g hg) ⟨by decide, (zEL.c (Or.inl rfl) zEL.n)⟩ (Or.inl ⟨_, _, _, _, rfl, rfl⟩) rfl rfl rfl (Nat.le_of_ble_eq_true rfl) ⟨rfl, rfl, Nat.le_of_ble_eq_true rfl, Nat.le_of_ble_eq_true rfl⟩ ⟨Nat.zero_le _, Nat.zero_le _⟩ ?_
      refine Z_iret 45 rfl rfl ⟨Nat.le_refl _, Nat.le_refl _⟩ ?_
      exact ⟨by rw [lstA_eq (lst_is (P := preP p.t p.s) (fun x => by unfold preP; rw [hinv x, Dn_allE h.1 hJ c58 (fun _ k u => 0 < (spr p.s (pl p.t k u) + ine p.s (pl p.t k u)) + (pl p.t k u).1 * x)]))], _, _, _, _, _, _, _, rfl⟩
    · obtain ⟨kk, uu, hV, hsp, hD, hO⟩ := wk_step h.1 hJ c58 s
      rw [hsp]
      have hI := Vis_in h.1 hV
      have hbd := pl_bd h.1 hI.1 hI.2.1
      have hb2 := sb_bd h.2.1 hbd
      have hb0 := hbd
      unfold SBd at hbd
      refine Z_aload_n 29 rfl rfl rfl ?_
      refine Z_get 30 rfl f_C_67 rfl rfl ?_
      refine Z_aload_n 31 rfl rfl rfl ?_
      refine Z_callVlp (M' := M_C_springHere) 32 isC rfl l_C_265 C_C_springHere (c_C_springHere l p rj (pl p.t kk uu) (nx p.t w) g q q2 sm co h) (emC ..) (Or.inl ⟨_, _, _, _, rfl, rfl⟩) rfl rfl rfl (Nat.le_of_ble_eq_true rfl) ⟨rfl, rfl, Nat.le_of_ble_eq_true rfl, Nat.le_of_ble_eq_true rfl⟩ ⟨Nat.zero_le _, Nat.zero_le _⟩ ?_
      refine Z_aload_n 33 rfl rfl rfl ?_
      refine Z_callVlp (M' := M_C_inertiaHere) 34 isC rfl l_C_268 C_C_inertiaHere (c_C_inertiaHere l p rj (pl p.t kk uu) (nx p.t w) g q q2 sm co h) (emC ..) (Or.inl ⟨_, _, _, _, rfl, rfl⟩) rfl rfl rfl (Nat.le_of_ble_eq_true rfl) ⟨rfl, rfl, Nat.le_of_ble_eq_true rfl, Nat.le_of_ble_eq_true rfl⟩ ⟨Nat.zero_le _, Nat.zero_le _⟩ ?_
      refine Z_ladd 35 rfl ?_
      refine Z_aload_n 36 rfl rfl rfl ?_
      refine Z_get 37 rfl f_C_53 rfl rfl ?_
      refine Z_getN 38 rfl f_C_195 rfl rfl ?_
      refine Z_callVv (M' := M_R_keepAboveZero) 39 [22] rfl l_C_244 C_R_keepAboveZero (c_R_keep l g ((spr p.s (pl p.t kk uu) + ine p.s (pl p.t kk uu))) ((pl p.t kk uu).1) hg (by omega) (by omega)) ⟨by decide, (zEL.c (Or.inl rfl) zEL.n)⟩ (Or.inl ⟨_, _, _, _, rfl, rfl⟩) rfl rfl rfl (Nat.le_of_ble_eq_true rfl) ⟨rfl, rfl, Nat.le_of_ble_eq_true rfl, Nat.le_of_ble_eq_true rfl⟩ ⟨Nat.zero_le _, Nat.zero_le _⟩ (fun out hq => ?_)
      obtain rfl := hq
      refine Z_mem (show _ = eC p rj (pl p.t kk uu) (nx p.t w) (kp g ((spr p.s (pl p.t kk uu) + ine p.s (pl p.t kk uu))) ((pl p.t kk uu).1)) q q2 sm co from rfl) ?_
      refine Z_iinc 40 rfl rfl (Nat.le_of_ble_eq_true rfl) (lv' := [(1, .int _), (0, .ref _)]) rfl ?_
      refine Z_goto 41 rfl (tgt := 36) rfl ?_
      refine Z_pick [0, 1] (lv' := [(0, .ref _), (1, .int _)]) rfl ?_
      exact ih (i + 1) _ _ _ (Jw_s h.1 hJ c58) (kp_bd hg (by omega) (by omega)) (fun x => by rw [kp_in _ _ _ _ hg.2.2, hinv x, Dn_all hD (fun _ k u => 0 < (spr p.s (pl p.t k u) + ine p.s (pl p.t k u)) + (pl p.t k u).1 * x)]; simp only [and_assoc]) (by omega)
theorem c_C_leastPreload (h : PV p) (s : SS) (w : WW) (g : RR) : Con l M_C_leastPreload R_C_leastPreload 0 0 false [.ref 0] (eC p rj s w g q q2 sm co) (zAi (lstA (preP p.t p.s)) (EC rj p)) := by
  refine Con.of_Z (by decide) D_C_leastPreload (Nat.le_of_ble_eq_true rfl) ?_
  refine Z_aload_n 0 rfl rfl rfl ?_
  refine Z_get 1 rfl f_C_67 rfl rfl ?_
  refine Z_gets (q := 27) 2 rfl f_C_145 rfl List.mem_cons_self ?_
  refine Z_iconst 3 rfl ?_
  refine Z_callSip (M' := M_C_pick) 4 [28] rfl l_C_148 C_C_pick (pick_in l 6 (by omega) leF 3 (by omega)) ⟨by decide, (zEL.c (Or.inl rfl) zEL.n)⟩ rfl rfl rfl (Nat.le_of_ble_eq_true rfl) ⟨rfl, rfl, Nat.le_of_ble_eq_true rfl, Nat.le_of_ble_eq_true rfl⟩ ⟨Nat.zero_le _, Nat.zero_le _⟩ ?_
  refine Z_ci (show leF 3 = 0 from rfl) ?_
  refine Z_i2l 5 rfl (by omega) ?_
  refine Z_gets (q := 27) 6 rfl f_C_152 rfl (List.mem_cons_of_mem _ List.mem_cons_self) ?_
  refine Z_iconst 7 rfl ?_
  refine Z_callSip (M' := M_C_pick) 8 [29] rfl l_C_148 C_C_pick (pick_in l 6 (by omega) moF 3 (by omega)) ⟨by decide, (zEL.c (Or.inl rfl) zEL.n)⟩ rfl rfl rfl (Nat.le_of_ble_eq_true rfl) ⟨rfl, rfl, Nat.le_of_ble_eq_true rfl, Nat.le_of_ble_eq_true rfl⟩ ⟨Nat.zero_le _, Nat.zero_le _⟩ ?_
  refine Z_ci (show moF 3 = 9999 from rfl) ?_
  refine Z_i2l 9 rfl (by omega) ?_
  refine Z_callVv (M' := M_R_open) 10 [22] rfl l_C_238 C_R_open (c_R_open l g 0 9999) ⟨by decide, (zEL.c (Or.inl rfl) zEL.n)⟩ (Or.inl ⟨_, _, _, _, rfl, rfl⟩) rfl rfl rfl (Nat.le_of_ble_eq_true rfl) ⟨rfl, rfl, Nat.le_of_ble_eq_true rfl, Nat.le_of_ble_eq_true rfl⟩ ⟨Nat.zero_le _, Nat.zero_le _⟩ (fun out hq => ?_)
  obtain rfl := hq
  refine Z_mem (show _ = eC p rj s w (0, 9999, 0) q q2 sm co from rfl) ?_
  refine Z_aload_n 11 rfl rfl rfl ?_
  refine Z_get 12 rfl f_C_60 rfl rfl ?_
  refine Z_aload_n 13 rfl rfl rfl ?_
  refine Z_get 14 rfl f_C_14 rfl rfl ?_
  refine Z_callVv (M' := M_K_start) 15 [21, 1, 2, 3, 4] rfl l_C_227 C_K_start (c_K_start l p.t h.1.1 w) ⟨by decide, (zEL.c (Or.inl rfl) (zEL.c (Or.inl rfl) (zEL.c (Or.inl rfl) (zEL.c (Or.inl rfl) (zEL.c (Or.inl rfl) zEL.n)))))⟩ (Or.inl ⟨_, _, _, _, rfl, rfl⟩) rfl rfl rfl (Nat.le_of_ble_eq_true rfl) ⟨rfl, rfl, Nat.le_of_ble_eq_true rfl, Nat.le_of_ble_eq_true rfl⟩ ⟨Nat.zero_le _, Nat.zero_le _⟩ (fun out hq => ?_)
  obtain rfl := hq
  refine Z_mem (show _ = eC p rj s (wk0 p.t) (0, 9999, 0) q q2 sm co from rfl) ?_
  refine Z_iconst 16 rfl ?_
  refine Z_istore_n 17 rfl rfl (Nat.le_of_ble_eq_true rfl) (lv' := [(1, .int _), (0, .ref _)]) rfl ?_
  refine Z_pick [0, 1] (lv' := [(0, .ref _), (1, .int _)]) rfl ?_
  exact lp_C_leastPreload l p rj q q2 sm co h 376 0 s (wk0 p.t) (0, 9999, 0) (Jw_0 h.1) (RB_0 (by omega) (by omega)) (fun x => ⟨fun hz => ⟨hz.2.1, hz.2.2, Dn_all0 h.1 _⟩, fun hz => ⟨rfl, hz.1, hz.2.1⟩⟩) (by omega)
theorem lp_C_leastStiff (h : PV p) : ∀ (d : Nat) (i : Int) (s : SS) (w : WW) (g : RR), Jw p.t w i → RB g → (∀ x, InR g x ↔ (0 ≤ x ∧ x ≤ 99 ∧ ∀ a k u, Dn p.t w a k u → 0 < (prl p.s (pl p.t k u) + ine p.s (pl p.t k u)) + lf (pl p.t k u) * x)) → 375 - i < d → Z (l, M_C_leastStiff, R_C_leastStiff, (0, 0), false, zAi (lstA (stiP p.t p.s)) (EC rj p)) 0 0 (eC p rj s w g q q2 sm co) 36 [(0, .ref 0), (1, .int (iI i))] [] := by
  intro d
  induction d with
  | zero => intro i s w g hJ hg hinv hd; exfalso; have := Jw_bd h.1 hJ; omega
  | succ d ih =>
    intro i s w g hJ hg hinv hd
    have hi := Jw_bd h.1 hJ
    refine Z_iload_n 18 rfl rfl rfl ?_
    refine Z_sipush 19 rfl rfl ?_
    refine Z_icmp_ge 20 rfl (tgt := 90) rfl (by omega) (by omega) (fun c40 => ?_) (fun c40 => ?_)
    · exfalso; omega
    refine Z_aload_n 21 rfl rfl rfl ?_
    refine Z_get 22 rfl f_C_60 rfl rfl ?_
    refine Z_aload_n 23 rfl rfl rfl ?_
    refine Z_get 24 rfl f_C_14 rfl rfl ?_
    refine Z_aload_n 25 rfl rfl rfl ?_
    refine Z_get 26 rfl f_C_53 rfl rfl ?_
    refine Z_callVb (M' := M_K_goOn) 27 [21, 1, 2, 3, 4, 20] rfl l_C_231 C_K_goOn (c_K_goOn l p.t h.1 s w i hJ) ⟨by decide, (zEL.c (Or.inl rfl) (zEL.c (Or.inl rfl) (zEL.c (Or.inl rfl) (zEL.c (Or.inl rfl) (zEL.c (Or.inl rfl) (zEL.c (Or.inl rfl) zEL.n))))))⟩ (Or.inl ⟨_, _, _, _, rfl, rfl⟩) rfl rfl rfl (Nat.le_of_ble_eq_true rfl) ⟨rfl, rfl, Nat.le_of_ble_eq_true rfl, Nat.le_of_ble_eq_true rfl⟩ ⟨Nat.zero_le _, Nat.zero_le _⟩ (fun out hq => ?_)
    obtain rfl := hq
    refine Z_mem (show _ = eC p rj (nsp p.t w s) (nx p.t w) g q q2 sm co from rfl) ?_
    refine Z_ifb_eq 28 rfl (tgt := 90) rfl (fun c58 => ?_) (fun c58 => ?_)
    · refine Z_aload_n 42 rfl rfl rfl ?_
      refine Z_get 43 rfl f_C_67 rfl rfl ?_
      refine Z_callVip (M' := M_R_leastOne) 44 [22] rfl l_C_247 C_R_leastOne (c_R_leastOne l g hg) ⟨by decide, (zEL.c (Or.inl rfl) zEL.n)⟩ (Or.inl ⟨_, _, _, _, rfl, rfl⟩) rfl rfl rfl (Nat.le_of_ble_eq_true rfl) ⟨rfl, rfl, Nat.le_of_ble_eq_true rfl, Nat.le_of_ble_eq_true rfl⟩ ⟨Nat.zero_le _, Nat.zero_le _⟩ ?_
      refine Z_iret 45 rfl rfl ⟨Nat.le_refl _, Nat.le_refl _⟩ ?_
      exact ⟨by rw [lstA_eq (lst_is (P := stiP p.t p.s) (fun x => by unfold stiP; rw [hinv x, Dn_allE h.1 hJ c58 (fun _ k u => 0 < (prl p.s (pl p.t k u) + ine p.s (pl p.t k u)) + lf (pl p.t k u) * x)]))], _, _, _, _, _, _, _, rfl⟩
    · obtain ⟨kk, uu, hV, hsp, hD, hO⟩ := wk_step h.1 hJ c58 s
      rw [hsp]
      have hI := Vis_in h.1 hV
      have hbd := pl_bd h.1 hI.1 hI.2.1
      have hb2 := sb_bd h.2.1 hbd
      have hb0 := hbd
      unfold SBd at hbd
      refine Z_aload_n 29 rfl rfl rfl ?_
      refine Z_get 30 rfl f_C_67 rfl rfl ?_
      refine Z_aload_n 31 rfl rfl rfl ?_
      refine Z_callVlp (M' := M_C_preloadHere) 32 isC rfl l_C_271 C_C_preloadHere (c_C_preloadHere l p rj (pl p.t kk uu) (nx p.t w) g q q2 sm co h) (emC ..) (Or.inl ⟨_, _, _, _, rfl, rfl⟩) rfl rfl rfl (Nat.le_of_ble_eq_true rfl) ⟨rfl, rfl, Nat.le_of_ble_eq_true rfl, Nat.le_of_ble_eq_true rfl⟩ ⟨Nat.zero_le _, Nat.zero_le _⟩ ?_
      refine Z_aload_n 33 rfl rfl rfl ?_
      refine Z_callVlp (M' := M_C_inertiaHere) 34 isC rfl l_C_268 C_C_inertiaHere (c_C_inertiaHere l p rj (pl p.t kk uu) (nx p.t w) g q q2 sm co h) (emC ..) (Or.inl ⟨_, _, _, _, rfl, rfl⟩) rfl rfl rfl (Nat.le_of_ble_eq_true rfl) ⟨rfl, rfl, Nat.le_of_ble_eq_true rfl, Nat.le_of_ble_eq_true rfl⟩ ⟨Nat.zero_le _, Nat.zero_le _⟩ ?_
      refine Z_ladd 35 rfl ?_
      refine Z_aload_n 36 rfl rfl rfl ?_
      refine Z_get 37 rfl f_C_53 rfl rfl ?_
      refine Z_callVlp (M' := M_S_lift) 38 [20] rfl l_C_184 C_S_lift (c_S_lift l (pl p.t kk uu)) ⟨by decide, (zEL.c (Or.inl rfl) zEL.n)⟩ (Or.inl ⟨_, _, _, _, rfl, rfl⟩) rfl rfl rfl (Nat.le_of_ble_eq_true rfl) ⟨rfl, rfl, Nat.le_of_ble_eq_true rfl, Nat.le_of_ble_eq_true rfl⟩ ⟨Nat.zero_le _, Nat.zero_le _⟩ ?_
      refine Z_callVv (M' := M_R_keepAboveZero) 39 [22] rfl l_C_244 C_R_keepAboveZero (c_R_keep l g ((prl p.s (pl p.t kk uu) + ine p.s (pl p.t kk uu))) (lf (pl p.t kk uu)) hg (by omega) (by omega)) ⟨by decide, (zEL.c (Or.inl rfl) zEL.n)⟩ (Or.inl ⟨_, _, _, _, rfl, rfl⟩) rfl rfl rfl (Nat.le_of_ble_eq_true rfl) ⟨rfl, rfl, Nat.le_of_ble_eq_true rfl, Nat.le_of_ble_eq_true rfl⟩ ⟨Nat.zero_le _, Nat.zero_le _⟩ (fun out hq => ?_)
      obtain rfl := hq
      refine Z_mem (show _ = eC p rj (pl p.t kk uu) (nx p.t w) (kp g ((prl p.s (pl p.t kk uu) + ine p.s (pl p.t kk uu))) (lf (pl p.t kk uu))) q q2 sm co from rfl) ?_
      refine Z_iinc 40 rfl rfl (Nat.le_of_ble_eq_true rfl) (lv' := [(1, .int _), (0, .ref _)]) rfl ?_
      refine Z_goto 41 rfl (tgt := 36) rfl ?_
      refine Z_pick [0, 1] (lv' := [(0, .ref _), (1, .int _)]) rfl ?_
      exact ih (i + 1) _ _ _ (Jw_s h.1 hJ c58) (kp_bd hg (by omega) (by omega)) (fun x => by rw [kp_in _ _ _ _ hg.2.2, hinv x, Dn_all hD (fun _ k u => 0 < (prl p.s (pl p.t k u) + ine p.s (pl p.t k u)) + lf (pl p.t k u) * x)]; simp only [and_assoc]) (by omega)
theorem c_C_leastStiff (h : PV p) (s : SS) (w : WW) (g : RR) : Con l M_C_leastStiff R_C_leastStiff 0 0 false [.ref 0] (eC p rj s w g q q2 sm co) (zAi (lstA (stiP p.t p.s)) (EC rj p)) := by
  refine Con.of_Z (by decide) D_C_leastStiff (Nat.le_of_ble_eq_true rfl) ?_
  refine Z_aload_n 0 rfl rfl rfl ?_
  refine Z_get 1 rfl f_C_67 rfl rfl ?_
  refine Z_gets (q := 27) 2 rfl f_C_145 rfl List.mem_cons_self ?_
  refine Z_iconst 3 rfl ?_
  refine Z_callSip (M' := M_C_pick) 4 [28] rfl l_C_148 C_C_pick (pick_in l 6 (by omega) leF 2 (by omega)) ⟨by decide, (zEL.c (Or.inl rfl) zEL.n)⟩ rfl rfl rfl (Nat.le_of_ble_eq_true rfl) ⟨rfl, rfl, Nat.le_of_ble_eq_true rfl, Nat.le_of_ble_eq_true rfl⟩ ⟨Nat.zero_le _, Nat.zero_le _⟩ ?_
  refine Z_ci (show leF 2 = 0 from rfl) ?_
  refine Z_i2l 5 rfl (by omega) ?_
  refine Z_gets (q := 27) 6 rfl f_C_152 rfl (List.mem_cons_of_mem _ List.mem_cons_self) ?_
  refine Z_iconst 7 rfl ?_
  refine Z_callSip (M' := M_C_pick) 8 [29] rfl l_C_148 C_C_pick (pick_in l 6 (by omega) moF 2 (by omega)) ⟨by decide, (zEL.c (Or.inl rfl) zEL.n)⟩ rfl rfl rfl (Nat.le_of_ble_eq_true rfl) ⟨rfl, rfl, Nat.le_of_ble_eq_true rfl, Nat.le_of_ble_eq_true rfl⟩ ⟨Nat.zero_le _, Nat.zero_le _⟩ ?_
  refine Z_ci (show moF 2 = 99 from rfl) ?_
  refine Z_i2l 9 rfl (by omega) ?_
  refine Z_callVv (M' := M_R_open) 10 [22] rfl l_C_238 C_R_open (c_R_open l g 0 99) ⟨by decide, (zEL.c (Or.inl rfl) zEL.n)⟩ (Or.inl ⟨_, _, _, _, rfl, rfl⟩) rfl rfl rfl (Nat.le_of_ble_eq_true rfl) ⟨rfl, rfl, Nat.le_of_ble_eq_true rfl, Nat.le_of_ble_eq_true rfl⟩ ⟨Nat.zero_le _, Nat.zero_le _⟩ (fun out hq => ?_)
  obtain rfl := hq
  refine Z_mem (show _ = eC p rj s w (0, 99, 0) q q2 sm co from rfl) ?_
  refine Z_aload_n 11 rfl rfl rfl ?_
  refine Z_get 12 rfl f_C_60 rfl rfl ?_
  refine Z_aload_n 13 rfl rfl rfl ?_
  refine Z_get 14 rfl f_C_14 rfl rfl ?_
  refine Z_callVv (M' := M_K_start) 15 [21, 1, 2, 3, 4] rfl l_C_227 C_K_start (c_K_start l p.t h.1.1 w) ⟨by decide, (zEL.c (Or.inl rfl) (zEL.c (Or.inl rfl) (zEL.c (Or.inl rfl) (zEL.c (Or.inl rfl) (zEL.c (Or.inl rfl) zEL.n)))))⟩ (Or.inl ⟨_, _, _, _, rfl, rfl⟩) rfl rfl rfl (Nat.le_of_ble_eq_true rfl) ⟨rfl, rfl, Nat.le_of_ble_eq_true rfl, Nat.le_of_ble_eq_true rfl⟩ ⟨Nat.zero_le _, Nat.zero_le _⟩ (fun out hq => ?_)
  obtain rfl := hq
  refine Z_mem (show _ = eC p rj s (wk0 p.t) (0, 99, 0) q q2 sm co from rfl) ?_
  refine Z_iconst 16 rfl ?_
  refine Z_istore_n 17 rfl rfl (Nat.le_of_ble_eq_true rfl) (lv' := [(1, .int _), (0, .ref _)]) rfl ?_
  refine Z_pick [0, 1] (lv' := [(0, .ref _), (1, .int _)]) rfl ?_
  exact lp_C_leastStiff l p rj q q2 sm co h 376 0 s (wk0 p.t) (0, 99, 0) (Jw_0 h.1) (RB_0 (by omega) (by omega)) (fun x => ⟨fun hz => ⟨hz.2.1, hz.2.2, Dn_all0 h.1 _⟩, fun hz => ⟨rfl, hz.1, hz.2.1⟩⟩) (by omega)
/-- two by two -/
def genQ (t : TT) (n x k u : Int) : Prop := 0 < lf (pl t k u) + (pl t k u).1 * x ∧ 0 < (n * lf (pl t k u) - 5700 * ab (pl t k u).2.2.1 + 1) + n * (pl t k u).1 * x
theorem lp_C_gentle (h : PV p) (n : Int) (hn : 0 ≤ n ∧ n ≤ 999) : ∀ (d : Nat) (i : Int) (s : SS) (w : WW) (g : RR), Jw p.t w i → RB g → (∀ x, InR g x ↔ (1 ≤ x ∧ x ≤ 999 ∧ ∀ a k u, Dn p.t w a k u → genQ p.t n x k u)) → 375 - i < d → Z (l, M_C_gentle, R_C_gentle, (0, 0), false, zAi (lstA (genP p.t n)) (EC rj p)) 0 0 (eC p rj s w g q q2 sm co) 50 [(0, .ref 0), (1, .int (iI n)), (2, .int (iI i))] [] := by
  intro d
  induction d with
  | zero => intro i s w g hJ hg hinv hd; exfalso; have := Jw_bd h.1 hJ; omega
  | succ d ih =>
    intro i s w g hJ hg hinv hd
    have hi := Jw_bd h.1 hJ
    refine Z_iload_n 25 rfl rfl rfl ?_
    refine Z_sipush 26 rfl rfl ?_
    refine Z_icmp_ge 27 rfl (tgt := 146) rfl (by omega) (by omega) (fun c54 => ?_) (fun c54 => ?_)
    · exfalso; omega
    refine Z_aload_n 28 rfl rfl rfl ?_
    refine Z_get 29 rfl f_C_60 rfl rfl ?_
    refine Z_aload_n 30 rfl rfl rfl ?_
    refine Z_get 31 rfl f_C_14 rfl rfl ?_
    refine Z_aload_n 32 rfl rfl rfl ?_
    refine Z_get 33 rfl f_C_53 rfl rfl ?_
    refine Z_callVb (M' := M_K_goOn) 34 [21, 1, 2, 3, 4, 20] rfl l_C_231 C_K_goOn (c_K_goOn l p.t h.1 s w i hJ) ⟨by decide, (zEL.c (Or.inl rfl) (zEL.c (Or.inl rfl) (zEL.c (Or.inl rfl) (zEL.c (Or.inl rfl) (zEL.c (Or.inl rfl) (zEL.c (Or.inl rfl) zEL.n))))))⟩ (Or.inl ⟨_, _, _, _, rfl, rfl⟩) rfl rfl rfl (Nat.le_of_ble_eq_true rfl) ⟨rfl, rfl, Nat.le_of_ble_eq_true rfl, Nat.le_of_ble_eq_true rfl⟩ ⟨Nat.zero_le _, Nat.zero_le _⟩ (fun out hq => ?_)
    obtain rfl := hq
    refine Z_mem (show _ = eC p rj (nsp p.t w s) (nx p.t w) g q q2 sm co from rfl) ?_
    refine Z_ifb_eq 35 rfl (tgt := 146) rfl (fun c72 => ?_) (fun c72 => ?_)
    · refine Z_aload_n 71 rfl rfl rfl ?_
      refine Z_get 72 rfl f_C_67 rfl rfl ?_
      refine Z_callVip (M' := M_R_leastOne) 73 [22] rfl l_C_247 C_R_leastOne (c_R_leastOne l g hg) ⟨by decide, (zEL.c (Or.inl rfl) zEL.n)⟩ (Or.inl ⟨_, _, _, _, rfl, rfl⟩) rfl rfl rfl (Nat.le_of_ble_eq_true rfl) ⟨rfl, rfl, Nat.le_of_ble_eq_true rfl, Nat.le_of_ble_eq_true rfl⟩ ⟨Nat.zero_le _, Nat.zero_le _⟩ ?_
      refine Z_iret 74 rfl rfl ⟨Nat.le_refl _, Nat.le_refl _⟩ ?_
      exact ⟨by rw [lstA_eq (lst_is (P := genP p.t n) (fun x => by unfold genP; rw [hinv x, Dn_allE h.1 hJ c72 (fun _ k u => genQ p.t n x k u)]; rfl))], _, _, _, _, _, _, _, rfl⟩
    · obtain ⟨kk, uu, hV, hsp, hD, hO⟩ := wk_step h.1 hJ c72 s
      rw [hsp]
      have hI := Vis_in h.1 hV
      have hbd := pl_bd h.1 hI.1 hI.2.1
      have hb0 := hbd
      unfold SBd at hbd
      have m1 := mul_ab (x := n) (y := lf (pl p.t kk uu)) (A := 999) (B := 7781996851200000) (by omega) (by omega)
      have m2 := mul_ab (x := n) (y := (pl p.t kk uu).1) (A := 999) (B := 6046617600000) (by omega) (by omega)
      have m3 := ab_bd (x := (pl p.t kk uu).2.2.1) (A := 49884595200000) (by omega)
      refine Z_aload_n 36 rfl rfl rfl ?_
      refine Z_get 37 rfl f_C_67 rfl rfl ?_
      refine Z_aload_n 38 rfl rfl rfl ?_
      refine Z_get 39 rfl f_C_53 rfl rfl ?_
      refine Z_callVlp (M' := M_S_lift) 40 [20] rfl l_C_184 C_S_lift (c_S_lift l (pl p.t kk uu)) ⟨by decide, (zEL.c (Or.inl rfl) zEL.n)⟩ (Or.inl ⟨_, _, _, _, rfl, rfl⟩) rfl rfl rfl (Nat.le_of_ble_eq_true rfl) ⟨rfl, rfl, Nat.le_of_ble_eq_true rfl, Nat.le_of_ble_eq_true rfl⟩ ⟨Nat.zero_le _, Nat.zero_le _⟩ ?_
      refine Z_aload_n 41 rfl rfl rfl ?_
      refine Z_get 42 rfl f_C_53 rfl rfl ?_
      refine Z_getN 43 rfl f_C_195 rfl rfl ?_
      refine Z_callVv (M' := M_R_keepAboveZero) 44 [22] rfl l_C_244 C_R_keepAboveZero (c_R_keep l g (lf (pl p.t kk uu)) (pl p.t kk uu).1 hg (by omega) (by omega)) ⟨by decide, (zEL.c (Or.inl rfl) zEL.n)⟩ (Or.inl ⟨_, _, _, _, rfl, rfl⟩) rfl rfl rfl (Nat.le_of_ble_eq_true rfl) ⟨rfl, rfl, Nat.le_of_ble_eq_true rfl, Nat.le_of_ble_eq_true rfl⟩ ⟨Nat.zero_le _, Nat.zero_le _⟩ (fun out hq => ?_)
      obtain rfl := hq
      refine Z_mem (show _ = eC p rj (pl p.t kk uu) (nx p.t w) (kp g (lf (pl p.t kk uu)) (pl p.t kk uu).1) q q2 sm co from rfl) ?_
      refine Z_aload_n 45 rfl rfl rfl ?_
      refine Z_get 46 rfl f_C_67 rfl rfl ?_
      refine Z_iload_n 47 rfl rfl rfl ?_
      refine Z_i2l 48 rfl (by omega) ?_
      refine Z_aload_n 49 rfl rfl rfl ?_
      refine Z_get 50 rfl f_C_53 rfl rfl ?_
      refine Z_callVlp (M' := M_S_lift) 51 [20] rfl l_C_184 C_S_lift (c_S_lift l (pl p.t kk uu)) ⟨by decide, (zEL.c (Or.inl rfl) zEL.n)⟩ (Or.inl ⟨_, _, _, _, rfl, rfl⟩) rfl rfl rfl (Nat.le_of_ble_eq_true rfl) ⟨rfl, rfl, Nat.le_of_ble_eq_true rfl, Nat.le_of_ble_eq_true rfl⟩ ⟨Nat.zero_le _, Nat.zero_le _⟩ ?_
      refine Z_lmul 52 rfl ?_
      refine Z_ldc2 53 rfl k_C_263 (c := 5700) rfl ?_
      refine Z_aload_n 54 rfl rfl rfl ?_
      refine Z_get 55 rfl f_C_53 rfl rfl ?_
      refine Z_getN 56 rfl f_C_188 rfl rfl ?_
      refine Z_absL 57 rfl l_C_250 b_st_absL b_ini_Math b_cd_absL (by omega) (Nat.le_of_ble_eq_true rfl) ⟨Nat.le_of_ble_eq_true rfl, Nat.zero_le _, Nat.zero_le _⟩ ?_
      refine Z_cl (show _ = ab (pl p.t kk uu).2.2.1 from rfl) ?_
      refine Z_lmul 58 rfl ?_
      refine Z_lsub 59 rfl ?_
      refine Z_lconst 60 rfl ?_
      refine Z_ladd 61 rfl ?_
      refine Z_iload_n 62 rfl rfl rfl ?_
      refine Z_i2l 63 rfl (by omega) ?_
      refine Z_aload_n 64 rfl rfl rfl ?_
      refine Z_get 65 rfl f_C_53 rfl rfl ?_
      refine Z_getN 66 rfl f_C_195 rfl rfl ?_
      refine Z_lmul 67 rfl ?_
      refine Z_callVv (M' := M_R_keepAboveZero) 68 [22] rfl l_C_244 C_R_keepAboveZero (c_R_keep l (kp g (lf (pl p.t kk uu)) (pl p.t kk uu).1) (n * lf (pl p.t kk uu) - 5700 * ab (pl p.t kk uu).2.2.1 + 1) (n * (pl p.t kk uu).1) (kp_bd hg (by omega) (by omega)) (by omega) (by omega)) ⟨by decide, (zEL.c (Or.inl rfl) zEL.n)⟩ (Or.inl ⟨_, _, _, _, rfl, rfl⟩) rfl rfl rfl (Nat.le_of_ble_eq_true rfl) ⟨rfl, rfl, Nat.le_of_ble_eq_true rfl, Nat.le_of_ble_eq_true rfl⟩ ⟨Nat.zero_le _, Nat.zero_le _⟩ (fun out hq => ?_)
      obtain rfl := hq
      refine Z_mem (show _ = eC p rj (pl p.t kk uu) (nx p.t w) (kp (kp g (lf (pl p.t kk uu)) (pl p.t kk uu).1) (n * lf (pl p.t kk uu) - 5700 * ab (pl p.t kk uu).2.2.1 + 1) (n * (pl p.t kk uu).1)) q q2 sm co from rfl) ?_
      refine Z_iinc 69 rfl rfl (Nat.le_of_ble_eq_true rfl) (lv' := [(2, .int _), (0, .ref _), (1, .int _)]) rfl ?_
      refine Z_goto 70 rfl (tgt := 50) rfl ?_
      refine Z_pick [0, 1, 2] (lv' := [(0, .ref _), (1, .int _), (2, .int _)]) rfl ?_
      have hk1 := kp_bd hg (a := lf (pl p.t kk uu)) (b := (pl p.t kk uu).1) (by omega) (by omega)
      exact ih (i + 1) _ _ _ (Jw_s h.1 hJ c72) (kp_bd hk1 (by omega) (by omega)) (fun x => by rw [kp_in _ _ _ _ hk1.2.2, kp_in _ _ _ _ hg.2.2, hinv x, Dn_all hD (fun _ k u => genQ p.t n x k u)]; unfold genQ; simp only [and_assoc]) (by omega)
theorem c_C_gentle (h : PV p) (n : Int) (hn : inI n) (s : SS) (w : WW) (g : RR) : Con l M_C_gentle R_C_gentle 0 0 false [.ref 0, .int (iI n)] (eC p rj s w g q q2 sm co) (zAi (gentleF p.t n) (EC rj p)) := by
  refine Con.of_Z (by decide) D_C_gentle (Nat.le_of_ble_eq_true rfl) ?_
  refine Z_iload_n 0 rfl rfl rfl ?_
  refine Z_if_lt 1 rfl (tgt := 11) rfl (by omega) (fun c1 => ?_) (fun c1 => ?_)
  · refine Z_bipush 5 rfl rfl ?_
    refine Z_iret 6 rfl rfl ⟨Nat.le_refl _, Nat.le_refl _⟩ ?_
    exact ⟨by unfold gentleF; (repeat (first | rw [cif_t (by first | assumption | omega)] | rw [cif_f (by first | assumption | omega)])), _, _, _, _, _, _, _, rfl⟩
  · refine Z_iload_n 2 rfl rfl rfl ?_
    refine Z_sipush 3 rfl rfl ?_
    refine Z_icmp_le 4 rfl (tgt := 14) rfl (by omega) (by omega) (fun c8 => ?_) (fun c8 => ?_)
    · refine Z_aload_n 7 rfl rfl rfl ?_
      refine Z_get 8 rfl f_C_67 rfl rfl ?_
      refine Z_gets (q := 27) 9 rfl f_C_145 rfl List.mem_cons_self ?_
      refine Z_iconst 10 rfl ?_
      refine Z_callSip (M' := M_C_pick) 11 [28] rfl l_C_148 C_C_pick (pick_in l 6 (by omega) leF 0 (by omega)) ⟨by decide, (zEL.c (Or.inl rfl) zEL.n)⟩ rfl rfl rfl (Nat.le_of_ble_eq_true rfl) ⟨rfl, rfl, Nat.le_of_ble_eq_true rfl, Nat.le_of_ble_eq_true rfl⟩ ⟨Nat.zero_le _, Nat.zero_le _⟩ ?_
      refine Z_ci (show leF 0 = 1 from rfl) ?_
      refine Z_i2l 12 rfl (by omega) ?_
      refine Z_gets (q := 27) 13 rfl f_C_152 rfl (List.mem_cons_of_mem _ List.mem_cons_self) ?_
      refine Z_iconst 14 rfl ?_
      refine Z_callSip (M' := M_C_pick) 15 [29] rfl l_C_148 C_C_pick (pick_in l 6 (by omega) moF 0 (by omega)) ⟨by decide, (zEL.c (Or.inl rfl) zEL.n)⟩ rfl rfl rfl (Nat.le_of_ble_eq_true rfl) ⟨rfl, rfl, Nat.le_of_ble_eq_true rfl, Nat.le_of_ble_eq_true rfl⟩ ⟨Nat.zero_le _, Nat.zero_le _⟩ ?_
      refine Z_ci (show moF 0 = 999 from rfl) ?_
      refine Z_i2l 16 rfl (by omega) ?_
      refine Z_callVv (M' := M_R_open) 17 [22] rfl l_C_238 C_R_open (c_R_open l g 1 999) ⟨by decide, (zEL.c (Or.inl rfl) zEL.n)⟩ (Or.inl ⟨_, _, _, _, rfl, rfl⟩) rfl rfl rfl (Nat.le_of_ble_eq_true rfl) ⟨rfl, rfl, Nat.le_of_ble_eq_true rfl, Nat.le_of_ble_eq_true rfl⟩ ⟨Nat.zero_le _, Nat.zero_le _⟩ (fun out hq => ?_)
      obtain rfl := hq
      refine Z_mem (show _ = eC p rj s w (1, 999, 0) q q2 sm co from rfl) ?_
      refine Z_aload_n 18 rfl rfl rfl ?_
      refine Z_get 19 rfl f_C_60 rfl rfl ?_
      refine Z_aload_n 20 rfl rfl rfl ?_
      refine Z_get 21 rfl f_C_14 rfl rfl ?_
      refine Z_callVv (M' := M_K_start) 22 [21, 1, 2, 3, 4] rfl l_C_227 C_K_start (c_K_start l p.t h.1.1 w) ⟨by decide, (zEL.c (Or.inl rfl) (zEL.c (Or.inl rfl) (zEL.c (Or.inl rfl) (zEL.c (Or.inl rfl) (zEL.c (Or.inl rfl) zEL.n)))))⟩ (Or.inl ⟨_, _, _, _, rfl, rfl⟩) rfl rfl rfl (Nat.le_of_ble_eq_true rfl) ⟨rfl, rfl, Nat.le_of_ble_eq_true rfl, Nat.le_of_ble_eq_true rfl⟩ ⟨Nat.zero_le _, Nat.zero_le _⟩ (fun out hq => ?_)
      obtain rfl := hq
      refine Z_mem (show _ = eC p rj s (wk0 p.t) (1, 999, 0) q q2 sm co from rfl) ?_
      refine Z_iconst 23 rfl ?_
      refine Z_istore_n 24 rfl rfl (Nat.le_of_ble_eq_true rfl) (lv' := [(2, .int _), (0, .ref _), (1, .int _)]) rfl ?_
      refine Z_pick [0, 1, 2] (lv' := [(0, .ref _), (1, .int _), (2, .int _)]) rfl ?_
      unfold gentleF
      rw [cif_t (by omega)]
      exact lp_C_gentle l p rj q q2 sm co h n (by omega) 376 0 s (wk0 p.t) (1, 999, 0) (Jw_0 h.1) (RB_0 (by omega) (by omega)) (fun x => ⟨fun hz => ⟨hz.2.1, hz.2.2, Dn_all0 h.1 _⟩, fun hz => ⟨rfl, hz.1, hz.2.1⟩⟩) (by omega)
    · refine Z_bipush 5 rfl rfl ?_
      refine Z_iret 6 rfl rfl ⟨Nat.le_refl _, Nat.le_refl _⟩ ?_
      exact ⟨by unfold gentleF; (repeat (first | rw [cif_t (by first | assumption | omega)] | rw [cif_f (by first | assumption | omega)])), _, _, _, _, _, _, _, rfl⟩
def fasQ (t : TT) (S : Int → Int) (y k u : Int) : Prop := 0 < (prl S (pl t k u) + spr S (pl t k u)) + S 1 * 3249 * (pl t k u).2.2.2.1 * y
theorem lp2_C_fastest (h : PV p) (s : SS) (w : WW) (g : RR) (hg : RB g) (hinv : ∀ y, InR g y ↔ (0 ≤ y ∧ y ≤ 900 ∧ ∀ a k u, Vis p.t a k u → fasQ p.t p.s y k u)) : ∀ (d : Nat) (v : Int), v ≤ 30 → -1 ≤ v → v < d → (∀ x, v < x → ¬ fasP p.t p.s x) → Z (l, M_C_fastest, R_C_fastest, (0, 0), false, zAi (gstA (fasP p.t p.s)) (EC rj p)) 0 0 (eC p rj s w g q q2 sm co) 100 [(0, .ref 0), (2, .int (iI v))] [] := by
  have key : ∀ v, 0 ≤ v → v ≤ 30 → (InR g (v * v) ↔ fasP p.t p.s v) := by
    intro v h0 h1
    have := mul_bd (x := v) (y := v) (A := 30) (B := 30) (by omega) (by omega)
    rw [hinv]
    unfold fasP fasQ
    constructor
    · intro hz
      exact ⟨h0, h1, hz.2.2⟩
    · intro hz
      exact ⟨by omega, by omega, hz.2.2⟩
  intro d
  induction d with
  | zero =>
    intro v h0 h1 h2 h3
    refine Z_iload_n 52 rfl rfl rfl ?_
    refine Z_gets (q := 27) 53 rfl f_C_145 rfl List.mem_cons_self ?_
    refine Z_iconst 54 rfl ?_
    refine Z_callSip (M' := M_C_pick) 55 [28] rfl l_C_148 C_C_pick (pick_in l 6 (by omega) leF 4 (by omega)) ⟨by decide, (zEL.c (Or.inl rfl) zEL.n)⟩ rfl rfl rfl (Nat.le_of_ble_eq_true rfl) ⟨rfl, rfl, Nat.le_of_ble_eq_true rfl, Nat.le_of_ble_eq_true rfl⟩ ⟨Nat.zero_le _, Nat.zero_le _⟩ ?_
    refine Z_ci (show leF 4 = 0 from rfl) ?_
    refine Z_icmp_lt 56 rfl (tgt := 134) rfl (by omega) (by omega) (fun c108 => ?_) (fun c108 => ?_)
    rotate_left
    · exfalso; omega
    refine Z_bipush 70 rfl rfl ?_
    refine Z_iret 71 rfl rfl ⟨Nat.le_refl _, Nat.le_refl _⟩ ?_
    exact ⟨by rw [gstA_eq (P := fasP p.t p.s) (v := -5) (Or.inr ⟨rfl, fun x hx => h3 x (by have := hx.1; omega) hx⟩)], _, _, _, _, _, _, _, rfl⟩
  | succ d ih =>
    intro v h0 h1 h2 h3
    have hm := mul_bd (x := if 0 ≤ v then v else 0) (y := if 0 ≤ v then v else 0) (A := 30) (B := 30) (by split <;> omega) (by split <;> omega)
    refine Z_iload_n 52 rfl rfl rfl ?_
    refine Z_gets (q := 27) 53 rfl f_C_145 rfl List.mem_cons_self ?_
    refine Z_iconst 54 rfl ?_
    refine Z_callSip (M' := M_C_pick) 55 [28] rfl l_C_148 C_C_pick (pick_in l 6 (by omega) leF 4 (by omega)) ⟨by decide, (zEL.c (Or.inl rfl) zEL.n)⟩ rfl rfl rfl (Nat.le_of_ble_eq_true rfl) ⟨rfl, rfl, Nat.le_of_ble_eq_true rfl, Nat.le_of_ble_eq_true rfl⟩ ⟨Nat.zero_le _, Nat.zero_le _⟩ ?_
    refine Z_ci (show leF 4 = 0 from rfl) ?_
    refine Z_icmp_lt 56 rfl (tgt := 134) rfl (by omega) (by omega) (fun c108 => ?_) (fun c108 => ?_)
    · refine Z_bipush 70 rfl rfl ?_
      refine Z_iret 71 rfl rfl ⟨Nat.le_refl _, Nat.le_refl _⟩ ?_
      exact ⟨by rw [gstA_eq (P := fasP p.t p.s) (v := -5) (Or.inr ⟨rfl, fun x hx => h3 x (by have := hx.1; omega) hx⟩)], _, _, _, _, _, _, _, rfl⟩
    · rw [if_pos (by omega)] at hm
      refine Z_aload_n 57 rfl rfl rfl ?_
      refine Z_get 58 rfl f_C_67 rfl rfl ?_
      refine Z_iload_n 59 rfl rfl rfl ?_
      refine Z_i2l 60 rfl (by omega) ?_
      refine Z_iload_n 61 rfl rfl rfl ?_
      refine Z_i2l 62 rfl (by omega) ?_
      refine Z_lmul 63 rfl ?_
      refine Z_callVbp (M' := M_R_holds) 64 [22] rfl l_C_278 C_R_holds (c_R_holds l g (v * v) hg (by omega)) ⟨by decide, (zEL.c (Or.inl rfl) zEL.n)⟩ (Or.inl ⟨_, _, _, _, rfl, rfl⟩) rfl rfl rfl (Nat.le_of_ble_eq_true rfl) ⟨rfl, rfl, Nat.le_of_ble_eq_true rfl, Nat.le_of_ble_eq_true rfl⟩ ⟨Nat.zero_le _, Nat.zero_le _⟩ ?_
      refine Z_ifb_eq 65 rfl (tgt := 128) rfl (fun c123 => ?_) (fun c123 => ?_)
      · refine Z_iinc 68 rfl rfl (Nat.le_of_ble_eq_true rfl) (lv' := [(2, .int _), (0, .ref _)]) rfl ?_
        refine Z_goto 69 rfl (tgt := 100) rfl ?_
        refine Z_pick [0, 2] (lv' := [(0, .ref _), (2, .int _)]) rfl ?_
        exact ih (v + -1) (by omega) (by omega) (by omega) (fun x hx => by
          by_cases e : x = v
          · rw [e]; exact fun z => c123 ((key v (by omega) h0).mpr z)
          · exact h3 x (by omega))
      · refine Z_iload_n 66 rfl rfl rfl ?_
        refine Z_iret 67 rfl rfl ⟨Nat.le_refl _, Nat.le_refl _⟩ ?_
        exact ⟨by rw [gstA_eq (P := fasP p.t p.s) (v := v) (Or.inl ⟨(key v (by omega) h0).mp c123, fun x hx => by rcases Int.lt_or_le v x with z | z; exact absurd hx (h3 x z); exact z⟩)], _, _, _, _, _, _, _, rfl⟩
theorem lp_C_fastest (h : PV p) : ∀ (d : Nat) (i : Int) (s : SS) (w : WW) (g : RR), Jw p.t w i → RB g → (∀ y, InR g y ↔ (0 ≤ y ∧ y ≤ 900 ∧ ∀ a k u, Dn p.t w a k u → fasQ p.t p.s y k u)) → 375 - i < d → Z (l, M_C_fastest, R_C_fastest, (0, 0), false, zAi (gstA (fasP p.t p.s)) (EC rj p)) 0 0 (eC p rj s w g q q2 sm co) 34 [(0, .ref 0), (1, .int (iI 30)), (2, .int (iI i))] [] := by
  intro d
  induction d with
  | zero => intro i s w g hJ hg hinv hd; exfalso; have := Jw_bd h.1 hJ; omega
  | succ d ih =>
    intro i s w g hJ hg hinv hd
    have hi := Jw_bd h.1 hJ
    refine Z_iload_n 20 rfl rfl rfl ?_
    refine Z_sipush 21 rfl rfl ?_
    refine Z_icmp_ge 22 rfl (tgt := 98) rfl (by omega) (by omega) (fun c38 => ?_) (fun c38 => ?_)
    · exfalso; omega
    refine Z_aload_n 23 rfl rfl rfl ?_
    refine Z_get 24 rfl f_C_60 rfl rfl ?_
    refine Z_aload_n 25 rfl rfl rfl ?_
    refine Z_get 26 rfl f_C_14 rfl rfl ?_
    refine Z_aload_n 27 rfl rfl rfl ?_
    refine Z_get 28 rfl f_C_53 rfl rfl ?_
    refine Z_callVb (M' := M_K_goOn) 29 [21, 1, 2, 3, 4, 20] rfl l_C_231 C_K_goOn (c_K_goOn l p.t h.1 s w i hJ) ⟨by decide, (zEL.c (Or.inl rfl) (zEL.c (Or.inl rfl) (zEL.c (Or.inl rfl) (zEL.c (Or.inl rfl) (zEL.c (Or.inl rfl) (zEL.c (Or.inl rfl) zEL.n))))))⟩ (Or.inl ⟨_, _, _, _, rfl, rfl⟩) rfl rfl rfl (Nat.le_of_ble_eq_true rfl) ⟨rfl, rfl, Nat.le_of_ble_eq_true rfl, Nat.le_of_ble_eq_true rfl⟩ ⟨Nat.zero_le _, Nat.zero_le _⟩ (fun out hq => ?_)
    obtain rfl := hq
    refine Z_mem (show _ = eC p rj (nsp p.t w s) (nx p.t w) g q q2 sm co from rfl) ?_
    refine Z_ifb_eq 30 rfl (tgt := 98) rfl (fun c56 => ?_) (fun c56 => ?_)
    · refine Z_iload_n 50 rfl rfl rfl ?_
      refine Z_istore_n 51 rfl rfl (Nat.le_of_ble_eq_true rfl) (lv' := [(2, .int _), (0, .ref _), (1, .int _)]) rfl ?_
      refine Z_pick [0, 2] (lv' := [(0, .ref _), (2, .int _)]) rfl ?_
      exact lp2_C_fastest l p rj q q2 sm co h _ _ g hg (fun y => by rw [hinv y, Dn_allE h.1 hJ c56 (fun _ k u => fasQ p.t p.s y k u)]) 31 30 (by omega) (by omega) (by omega) (fun x hx hz => by have := hz.2.1; omega)
    · obtain ⟨kk, uu, hV, hsp, hD, hO⟩ := wk_step h.1 hJ c56 s
      rw [hsp]
      have hI := Vis_in h.1 hV
      have hbd := pl_bd h.1 hI.1 hI.2.1
      have hb2 := sb_bd h.2.1 hbd
      have hb0 := hbd
      unfold SBd at hbd
      have hS := h.2.1
      unfold SB at hS
      have m1 := mul_ab (x := p.s 1 * 3249) (y := (pl p.t kk uu).2.2.2.1) (A := 64980) (B := 69284160000) (by omega) (by omega)
      refine Z_aload_n 31 rfl rfl rfl ?_
      refine Z_get 32 rfl f_C_67 rfl rfl ?_
      refine Z_aload_n 33 rfl rfl rfl ?_
      refine Z_callVlp (M' := M_C_preloadHere) 34 isC rfl l_C_271 C_C_preloadHere (c_C_preloadHere l p rj (pl p.t kk uu) (nx p.t w) g q q2 sm co h) (emC ..) (Or.inl ⟨_, _, _, _, rfl, rfl⟩) rfl rfl rfl (Nat.le_of_ble_eq_true rfl) ⟨rfl, rfl, Nat.le_of_ble_eq_true rfl, Nat.le_of_ble_eq_true rfl⟩ ⟨Nat.zero_le _, Nat.zero_le _⟩ ?_
      refine Z_aload_n 35 rfl rfl rfl ?_
      refine Z_callVlp (M' := M_C_springHere) 36 isC rfl l_C_265 C_C_springHere (c_C_springHere l p rj (pl p.t kk uu) (nx p.t w) g q q2 sm co h) (emC ..) (Or.inl ⟨_, _, _, _, rfl, rfl⟩) rfl rfl rfl (Nat.le_of_ble_eq_true rfl) ⟨rfl, rfl, Nat.le_of_ble_eq_true rfl, Nat.le_of_ble_eq_true rfl⟩ ⟨Nat.zero_le _, Nat.zero_le _⟩ ?_
      refine Z_ladd 37 rfl ?_
      refine Z_aload_n 38 rfl rfl rfl ?_
      refine Z_iconst 39 rfl ?_
      refine Z_callVlp (M' := M_C_setting) 40 isC rfl l_C_274 C_C_setting (c_C_setting l p rj (pl p.t kk uu) (nx p.t w) g q q2 sm co h 1 (by omega)) (emC ..) (Or.inl ⟨_, _, _, _, rfl, rfl⟩) rfl rfl rfl (Nat.le_of_ble_eq_true rfl) ⟨rfl, rfl, Nat.le_of_ble_eq_true rfl, Nat.le_of_ble_eq_true rfl⟩ ⟨Nat.zero_le _, Nat.zero_le _⟩ ?_
      refine Z_ldc2 41 rfl k_C_242 (c := 3249) rfl ?_
      refine Z_lmul 42 rfl ?_
      refine Z_aload_n 43 rfl rfl rfl ?_
      refine Z_get 44 rfl f_C_53 rfl rfl ?_
      refine Z_getN 45 rfl f_C_192 rfl rfl ?_
      refine Z_lmul 46 rfl ?_
      refine Z_callVv (M' := M_R_keepAboveZero) 47 [22] rfl l_C_244 C_R_keepAboveZero (c_R_keep l g (prl p.s (pl p.t kk uu) + spr p.s (pl p.t kk uu)) (p.s 1 * 3249 * (pl p.t kk uu).2.2.2.1) hg (by omega) (by omega)) ⟨by decide, (zEL.c (Or.inl rfl) zEL.n)⟩ (Or.inl ⟨_, _, _, _, rfl, rfl⟩) rfl rfl rfl (Nat.le_of_ble_eq_true rfl) ⟨rfl, rfl, Nat.le_of_ble_eq_true rfl, Nat.le_of_ble_eq_true rfl⟩ ⟨Nat.zero_le _, Nat.zero_le _⟩ (fun out hq => ?_)
      obtain rfl := hq
      refine Z_mem (show _ = eC p rj (pl p.t kk uu) (nx p.t w) (kp g (prl p.s (pl p.t kk uu) + spr p.s (pl p.t kk uu)) (p.s 1 * 3249 * (pl p.t kk uu).2.2.2.1)) q q2 sm co from rfl) ?_
      refine Z_iinc 48 rfl rfl (Nat.le_of_ble_eq_true rfl) (lv' := [(2, .int _), (0, .ref _), (1, .int _)]) rfl ?_
      refine Z_goto 49 rfl (tgt := 34) rfl ?_
      refine Z_pick [0, 1, 2] (lv' := [(0, .ref _), (1, .int _), (2, .int _)]) rfl ?_
      exact ih (i + 1) _ _ _ (Jw_s h.1 hJ c56) (kp_bd hg (by omega) (by omega)) (fun y => by rw [kp_in _ _ _ _ hg.2.2, hinv y, Dn_all hD (fun _ k u => fasQ p.t p.s y k u)]; unfold fasQ; simp only [and_assoc]) (by omega)
theorem c_C_fastest (h : PV p) (s : SS) (w : WW) (g : RR) : Con l M_C_fastest R_C_fastest 0 0 false [.ref 0] (eC p rj s w g q q2 sm co) (zAi (gstA (fasP p.t p.s)) (EC rj p)) := by
  refine Con.of_Z (by decide) D_C_fastest (Nat.le_of_ble_eq_true rfl) ?_
  refine Z_gets (q := 27) 0 rfl f_C_152 rfl (List.mem_cons_of_mem _ List.mem_cons_self) ?_
  refine Z_iconst 1 rfl ?_
  refine Z_callSip (M' := M_C_pick) 2 [29] rfl l_C_148 C_C_pick (pick_in l 6 (by omega) moF 4 (by omega)) ⟨by decide, (zEL.c (Or.inl rfl) zEL.n)⟩ rfl rfl rfl (Nat.le_of_ble_eq_true rfl) ⟨rfl, rfl, Nat.le_of_ble_eq_true rfl, Nat.le_of_ble_eq_true rfl⟩ ⟨Nat.zero_le _, Nat.zero_le _⟩ ?_
  refine Z_ci (show moF 4 = 30 from rfl) ?_
  refine Z_istore_n 3 rfl rfl (Nat.le_of_ble_eq_true rfl) (lv' := [(1, .int _), (0, .ref _)]) rfl ?_
  refine Z_aload_n 4 rfl rfl rfl ?_
  refine Z_get 5 rfl f_C_67 rfl rfl ?_
  refine Z_lconst 6 rfl ?_
  refine Z_iload_n 7 rfl rfl rfl ?_
  refine Z_i2l 8 rfl (by omega) ?_
  refine Z_iload_n 9 rfl rfl rfl ?_
  refine Z_i2l 10 rfl (by omega) ?_
  refine Z_lmul 11 rfl ?_
  refine Z_callVv (M' := M_R_open) 12 [22] rfl l_C_238 C_R_open (c_R_open l g 0 900) ⟨by decide, (zEL.c (Or.inl rfl) zEL.n)⟩ (Or.inl ⟨_, _, _, _, rfl, rfl⟩) rfl rfl rfl (Nat.le_of_ble_eq_true rfl) ⟨rfl, rfl, Nat.le_of_ble_eq_true rfl, Nat.le_of_ble_eq_true rfl⟩ ⟨Nat.zero_le _, Nat.zero_le _⟩ (fun out hq => ?_)
  obtain rfl := hq
  refine Z_mem (show _ = eC p rj s w (0, 900, 0) q q2 sm co from rfl) ?_
  refine Z_aload_n 13 rfl rfl rfl ?_
  refine Z_get 14 rfl f_C_60 rfl rfl ?_
  refine Z_aload_n 15 rfl rfl rfl ?_
  refine Z_get 16 rfl f_C_14 rfl rfl ?_
  refine Z_callVv (M' := M_K_start) 17 [21, 1, 2, 3, 4] rfl l_C_227 C_K_start (c_K_start l p.t h.1.1 w) ⟨by decide, (zEL.c (Or.inl rfl) (zEL.c (Or.inl rfl) (zEL.c (Or.inl rfl) (zEL.c (Or.inl rfl) (zEL.c (Or.inl rfl) zEL.n)))))⟩ (Or.inl ⟨_, _, _, _, rfl, rfl⟩) rfl rfl rfl (Nat.le_of_ble_eq_true rfl) ⟨rfl, rfl, Nat.le_of_ble_eq_true rfl, Nat.le_of_ble_eq_true rfl⟩ ⟨Nat.zero_le _, Nat.zero_le _⟩ (fun out hq => ?_)
  obtain rfl := hq
  refine Z_mem (show _ = eC p rj s (wk0 p.t) (0, 900, 0) q q2 sm co from rfl) ?_
  refine Z_iconst 18 rfl ?_
  refine Z_istore_n 19 rfl rfl (Nat.le_of_ble_eq_true rfl) (lv' := [(2, .int _), (1, .int _), (0, .ref _)]) rfl ?_
  refine Z_pick [0, 1, 2] (lv' := [(0, .ref _), (1, .int _), (2, .int _)]) rfl ?_
  exact lp_C_fastest l p rj q q2 sm co h 376 0 s (wk0 p.t) (0, 900, 0) (Jw_0 h.1) (RB_0 (by omega) (by omega)) (fun x => ⟨fun hz => ⟨hz.2.1, hz.2.2, Dn_all0 h.1 _⟩, fun hz => ⟨rfl, hz.1, hz.2.1⟩⟩) (by omega)
theorem lp_C_floating (h : PV p) (g : RR) : ∀ (d : Nat) (i : Int) (s : SS) (w : WW), Jw p.t w i → (∀ a k u, Dn p.t w a k u → 0 < frc p.s (pl p.t k u)) → 375 - i < d → Z (l, M_C_floating, R_C_floating, (0, 0), false, zAi (lstA (floP p.t p.s)) (EC rj p)) 0 0 (eC p rj s w g q q2 sm co) 13 [(0, .ref 0), (1, .int (iI i))] [] := by
  intro d
  induction d with
  | zero => intro i s w hJ hinv hd; exfalso; have := Jw_bd h.1 hJ; omega
  | succ d ih =>
    intro i s w hJ hinv hd
    have hi := Jw_bd h.1 hJ
    refine Z_iload_n 7 rfl rfl rfl ?_
    refine Z_sipush 8 rfl rfl ?_
    refine Z_icmp_ge 9 rfl (tgt := 61) rfl (by omega) (by omega) (fun c17 => ?_) (fun c17 => ?_)
    · exfalso; omega
    refine Z_aload_n 10 rfl rfl rfl ?_
    refine Z_get 11 rfl f_C_60 rfl rfl ?_
    refine Z_aload_n 12 rfl rfl rfl ?_
    refine Z_get 13 rfl f_C_14 rfl rfl ?_
    refine Z_aload_n 14 rfl rfl rfl ?_
    refine Z_get 15 rfl f_C_53 rfl rfl ?_
    refine Z_callVb (M' := M_K_goOn) 16 [21, 1, 2, 3, 4, 20] rfl l_C_231 C_K_goOn (c_K_goOn l p.t h.1 s w i hJ) ⟨by decide, (zEL.c (Or.inl rfl) (zEL.c (Or.inl rfl) (zEL.c (Or.inl rfl) (zEL.c (Or.inl rfl) (zEL.c (Or.inl rfl) (zEL.c (Or.inl rfl) zEL.n))))))⟩ (Or.inl ⟨_, _, _, _, rfl, rfl⟩) rfl rfl rfl (Nat.le_of_ble_eq_true rfl) ⟨rfl, rfl, Nat.le_of_ble_eq_true rfl, Nat.le_of_ble_eq_true rfl⟩ ⟨Nat.zero_le _, Nat.zero_le _⟩ (fun out hq => ?_)
    obtain rfl := hq
    refine Z_mem (show _ = eC p rj (nsp p.t w s) (nx p.t w) g q q2 sm co from rfl) ?_
    refine Z_ifb_eq 17 rfl (tgt := 61) rfl (fun c35 => ?_) (fun c35 => ?_)
    · refine Z_bipush 29 rfl rfl ?_
      refine Z_iret 30 rfl rfl ⟨Nat.le_refl _, Nat.le_refl _⟩ ?_
      exact ⟨by
        rw [lstA_eq (P := floP p.t p.s) (v := -5) (Or.inr ⟨rfl, fun x hx => by
          obtain ⟨k2, u2, hv2, hf2⟩ := hx
          have := hinv _ _ _ ((Dn_end h.1 hJ c35).mpr hv2)
          omega⟩)], _, _, _, _, _, _, _, rfl⟩
    · obtain ⟨kk, uu, hV, hsp, hD, hO⟩ := wk_step h.1 hJ c35 s
      rw [hsp]
      have hI := Vis_in h.1 hV
      have hbd := pl_bd h.1 hI.1 hI.2.1
      have hb2 := frc_bd h.2.1 hbd
      refine Z_aload_n 18 rfl rfl rfl ?_
      refine Z_callVlp (M' := M_C_forceHere) 19 isC rfl l_C_224 C_C_forceHere (c_C_forceHere l p rj (pl p.t kk uu) (nx p.t w) g q q2 sm co h) (emC ..) (Or.inl ⟨_, _, _, _, rfl, rfl⟩) rfl rfl rfl (Nat.le_of_ble_eq_true rfl) ⟨rfl, rfl, Nat.le_of_ble_eq_true rfl, Nat.le_of_ble_eq_true rfl⟩ ⟨Nat.zero_le _, Nat.zero_le _⟩ ?_
      refine Z_lconst 20 rfl ?_
      refine Z_lc_gt 21 rfl rfl (tgt := 55) rfl (by omega) (by omega) (fun c43 => ?_) (fun c43 => ?_)
      · refine Z_iinc 27 rfl rfl (Nat.le_of_ble_eq_true rfl) (lv' := [(1, .int _), (0, .ref _)]) rfl ?_
        refine Z_goto 28 rfl (tgt := 13) rfl ?_
        refine Z_pick [0, 1] (lv' := [(0, .ref _), (1, .int _)]) rfl ?_
        exact ih (i + 1) _ _ (Jw_s h.1 hJ c35) ((Dn_all hD (fun _ k u => 0 < frc p.s (pl p.t k u))).mpr ⟨hinv, by omega⟩) (by omega)
      · refine Z_aload_n 23 rfl rfl rfl ?_
        refine Z_get 24 rfl f_C_60 rfl rfl ?_
        refine Z_getN 25 rfl f_C_235 rfl rfl ?_
        refine Z_iret 26 rfl rfl ⟨Nat.le_refl _, Nat.le_refl _⟩ ?_
        exact ⟨by
          rw [lstA_eq (P := floP p.t p.s) (v := (nx p.t w).1) (Or.inl ⟨⟨kk, uu, hV, by omega⟩, fun x hx => by
            obtain ⟨k2, u2, hv2, hf2⟩ := hx
            rcases wk_ge h.1 hJ c35 hv2 with z | z
            · have := hinv _ _ _ z
              omega
            · exact z⟩)], _, _, _, _, _, _, _, rfl⟩
theorem c_C_floating (h : PV p) (s : SS) (w : WW) (g : RR) : Con l M_C_floating R_C_floating 0 0 false [.ref 0] (eC p rj s w g q q2 sm co) (zAi (lstA (floP p.t p.s)) (EC rj p)) := by
  refine Con.of_Z (by decide) D_C_floating (Nat.le_of_ble_eq_true rfl) ?_
  refine Z_aload_n 0 rfl rfl rfl ?_
  refine Z_get 1 rfl f_C_60 rfl rfl ?_
  refine Z_aload_n 2 rfl rfl rfl ?_
  refine Z_get 3 rfl f_C_14 rfl rfl ?_
  refine Z_callVv (M' := M_K_start) 4 [21, 1, 2, 3, 4] rfl l_C_227 C_K_start (c_K_start l p.t h.1.1 w) ⟨by decide, (zEL.c (Or.inl rfl) (zEL.c (Or.inl rfl) (zEL.c (Or.inl rfl) (zEL.c (Or.inl rfl) (zEL.c (Or.inl rfl) zEL.n)))))⟩ (Or.inl ⟨_, _, _, _, rfl, rfl⟩) rfl rfl rfl (Nat.le_of_ble_eq_true rfl) ⟨rfl, rfl, Nat.le_of_ble_eq_true rfl, Nat.le_of_ble_eq_true rfl⟩ ⟨Nat.zero_le _, Nat.zero_le _⟩ (fun out hq => ?_)
  obtain rfl := hq
  refine Z_mem (show _ = eC p rj s (wk0 p.t) g q q2 sm co from rfl) ?_
  refine Z_iconst 5 rfl ?_
  refine Z_istore_n 6 rfl rfl (Nat.le_of_ble_eq_true rfl) (lv' := [(1, .int _), (0, .ref _)]) rfl ?_
  refine Z_pick [0, 1] (lv' := [(0, .ref _), (1, .int _)]) rfl ?_
  exact lp_C_floating l p rj q q2 sm co h g 376 0 s (wk0 p.t) (Jw_0 h.1) (Dn_all0 h.1 _) (by omega)
end C4
