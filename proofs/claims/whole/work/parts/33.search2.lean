/-! CamPieces: how many angles, the steepest, the extremes -/
theorem cnt_ge {P P' : Int → Prop} {A : Int} (h : ∀ a, P' a ↔ (P a ∨ a = A)) (hA : 0 ≤ A) (hn : ¬ P A) : ∀ m : Nat, cnt P' m = cnt P m + if A < m then 1 else 0 := by
  intro m
  induction m with
  | zero =>
    rw [if_neg (by omega)]
    rfl
  | succ m ih =>
    show cnt P' m + bI (P' m) = cnt P m + bI (P m) + _
    rw [ih]
    by_cases e : (m : Int) = A
    · rw [bI_t ((h m).mpr (Or.inr e)), bI_f (by rw [e]; exact hn), if_neg (by omega), if_pos (by omega)] <;> omega
    · rw [bI_c (show P' m ↔ P m from ⟨fun z => ((h m).mp z).resolve_right e, fun z => (h m).mpr (Or.inl z)⟩)]
      by_cases e2 : A < (m : Int)
      · rw [if_pos e2, if_pos (by omega)] <;> omega
      · rw [if_neg e2, if_neg (by omega)] <;> omega
theorem cnI_add {P P' : Int → Prop} {A n : Int} (h : ∀ a, P' a ↔ (P a ∨ a = A)) (hA : 0 ≤ A) (hn : ¬ P A) (hb : A < n) : cnI P' n = cnI P n + 1 := by
  unfold cnI
  rw [cnt_ge h hA hn, if_pos (by omega)]
def conV (S : Int → Int) (what : Int) (s : SS) : Int := if what = 0 then cur S s else frc S s
noncomputable def countF (t : TT) (S : Int → Int) (what : Int) : Int := cif (0 ≤ what ∧ what ≤ 1) (cnI (fun a => ∃ k u, Vis t a k u ∧ conV S what (pl t k u) ≤ 0) (tot t + 1)) (-1)
/-- so many angles, the latest of them -/
def cnQ (t : TT) (S : Int → Int) (what : Int) (w : WW) (a : Int) : Prop := ∃ k u, Dn t w a k u ∧ conV S what (pl t k u) ≤ 0
def cnW (t : TT) (S : Int → Int) (what : Int) (w : WW) (la : Int) : Prop := (∀ a, cnQ t S what w a → a ≤ la) ∧ (la = -1 ∨ (cnQ t S what w la ∧ 0 ≤ la ∧ la ≤ tot t))
theorem cnQ_n {t : TT} {S : Int → Int} {what : Int} {w w' : WW} {aa kk uu : Int} (hD : ∀ a k u, Dn t w' a k u ↔ (Dn t w a k u ∨ (a = aa ∧ k = kk ∧ u = uu))) (hv : ¬ conV S what (pl t kk uu) ≤ 0) (a : Int) : cnQ t S what w' a ↔ cnQ t S what w a := by
  constructor
  · rintro ⟨k, u, h1, h2⟩
    rcases (hD a k u).mp h1 with z | ⟨-, e2, e3⟩
    · exact ⟨k, u, z, h2⟩
    · rw [e2, e3] at h2
      exact absurd h2 hv
  · rintro ⟨k, u, h1, h2⟩
    exact ⟨k, u, (hD a k u).mpr (Or.inl h1), h2⟩
theorem cnQ_y {t : TT} {S : Int → Int} {what : Int} {w w' : WW} {aa kk uu : Int} (hD : ∀ a k u, Dn t w' a k u ↔ (Dn t w a k u ∨ (a = aa ∧ k = kk ∧ u = uu))) (hv : conV S what (pl t kk uu) ≤ 0) (a : Int) : cnQ t S what w' a ↔ (cnQ t S what w a ∨ a = aa) := by
  constructor
  · rintro ⟨k, u, h1, h2⟩
    rcases (hD a k u).mp h1 with z | ⟨e1, e2, e3⟩
    · exact Or.inl ⟨k, u, z, h2⟩
    · exact Or.inr e1
  · rintro (⟨k, u, h1, h2⟩ | e)
    · exact ⟨k, u, (hD a k u).mpr (Or.inl h1), h2⟩
    · exact ⟨kk, uu, (hD a kk uu).mpr (Or.inr ⟨e, rfl, rfl⟩), hv⟩
section C5
variable (l : Launch) (p : PS) (rj : RJ) (q2 : Int × Int) (sm co : Int → Int)
theorem lp_C_count (h : PV p) (what : Int) (hw : what = 0 ∨ what = 1) (g : RR) (q : Int × Int) : ∀ (d : Nat) (i la nn : Int) (s : SS) (w : WW), Jw p.t w i → nn = cnI (cnQ p.t p.s what w) (tot p.t + 1) → cnW p.t p.s what w la → 375 - i < d → Z (l, M_C_count, R_C_count, (0, 0), false, zAi (cnI (fun a => ∃ k u, Vis p.t a k u ∧ conV p.s what (pl p.t k u) ≤ 0) (tot p.t + 1)) (EC rj p)) 0 0 (eC p rj s w g q q2 sm co) 29 [(0, .ref 0), (1, .int (iI what)), (2, .int (iI nn)), (3, .int (iI la)), (4, .int (iI i))] [] := by
  have ht := tot_bd h.1.1
  intro d
  induction d with
  | zero => intro i la nn s w hJ h1 h2 hd; exfalso; have := Jw_bd h.1 hJ; omega
  | succ d ih =>
    intro i la nn s w hJ h1 h2 hd
    have hi := Jw_bd h.1 hJ
    refine Z_iload 18 rfl rfl ?_
    refine Z_sipush 19 rfl rfl ?_
    refine Z_icmp_ge 20 rfl (tgt := 107) rfl (by omega) (by omega) (fun c34 => ?_) (fun c34 => ?_)
    · exfalso; omega
    refine Z_aload_n 21 rfl rfl rfl ?_
    refine Z_get 22 rfl f_C_60 rfl rfl ?_
    refine Z_aload_n 23 rfl rfl rfl ?_
    refine Z_get 24 rfl f_C_14 rfl rfl ?_
    refine Z_aload_n 25 rfl rfl rfl ?_
    refine Z_get 26 rfl f_C_53 rfl rfl ?_
    refine Z_callVb (M' := M_K_goOn) 27 [21, 1, 2, 3, 4, 20] rfl l_C_231 C_K_goOn (c_K_goOn l p.t h.1 s w i hJ) ⟨by decide, (zEL.c (Or.inl rfl) (zEL.c (Or.inl rfl) (zEL.c (Or.inl rfl) (zEL.c (Or.inl rfl) (zEL.c (Or.inl rfl) (zEL.c (Or.inl rfl) zEL.n))))))⟩ (Or.inl ⟨_, _, _, _, rfl, rfl⟩) rfl rfl rfl (Nat.le_of_ble_eq_true rfl) ⟨rfl, rfl, Nat.le_of_ble_eq_true rfl, Nat.le_of_ble_eq_true rfl⟩ ⟨Nat.zero_le _, Nat.zero_le _⟩ (fun out hq => ?_)
    obtain rfl := hq
    refine Z_mem (show _ = eC p rj (nsp p.t w s) (nx p.t w) g q q2 sm co from rfl) ?_
    refine Z_ifb_eq 28 rfl (tgt := 107) rfl (fun c52 => ?_) (fun c52 => ?_)
    · refine Z_iload_n 53 rfl rfl rfl ?_
      refine Z_iret 54 rfl rfl ⟨Nat.le_refl _, Nat.le_refl _⟩ ?_
      exact ⟨by rw [h1, cnI_c (P := cnQ p.t p.s what w) (Q := fun a => ∃ k u, Vis p.t a k u ∧ conV p.s what (pl p.t k u) ≤ 0) (fun a _ _ => ⟨fun ⟨k, u, z1, z2⟩ => ⟨k, u, (Dn_end h.1 hJ c52).mp z1, z2⟩, fun ⟨k, u, z1, z2⟩ => ⟨k, u, (Dn_end h.1 hJ c52).mpr z1, z2⟩⟩)], _, _, _, _, _, _, _, rfl⟩
    · obtain ⟨kk, uu, hV, hsp, hD, hO⟩ := wk_step h.1 hJ c52 s
      rw [hsp]
      have hI := Vis_in h.1 hV
      have hbd := pl_bd h.1 hI.1 hI.2.1
      have hb2 := frc_bd h.2.1 hbd
      have hb3 := sb_bd h.2.1 hbd
      have hla : -1 ≤ la ∧ la ≤ tot p.t := by rcases h2.2 with z | z <;> omega
      refine Z_iload_n 29 rfl rfl rfl ?_
      refine Z_if_ne 30 rfl (tgt := 66) rfl (by omega) (fun c56 => ?_) (fun c56 => ?_)
      · refine Z_aload_n 34 rfl rfl rfl ?_
        refine Z_callVlp (M' := M_C_forceHere) 35 isC rfl l_C_224 C_C_forceHere (c_C_forceHere l p rj (pl p.t kk uu) (nx p.t w) g q q2 sm co h) (emC ..) (Or.inl ⟨_, _, _, _, rfl, rfl⟩) rfl rfl rfl (Nat.le_of_ble_eq_true rfl) ⟨rfl, rfl, Nat.le_of_ble_eq_true rfl, Nat.le_of_ble_eq_true rfl⟩ ⟨Nat.zero_le _, Nat.zero_le _⟩ ?_
        refine Z_cl (show _ = conV p.s what (pl p.t kk uu) by unfold conV; first | rw [if_pos (by omega)] | rw [if_neg (by omega)]) ?_
        have hcv : inL (conV p.s what (pl p.t kk uu)) := by unfold conV; split <;> omega
        refine Z_lstore 36 rfl (Nat.le_of_ble_eq_true rfl) (lv' := [(5, .long _), (0, .ref _), (1, .int _), (2, .int _), (3, .int _), (4, .int _)]) rfl ?_
        refine Z_lload 37 rfl rfl ?_
        refine Z_lconst 38 rfl ?_
        refine Z_lc_gt 39 rfl rfl (tgt := 101) rfl (by omega) (by omega) (fun c75 => ?_) (fun c75 => ?_)
        · refine Z_iinc 51 rfl rfl (Nat.le_of_ble_eq_true rfl) (lv' := [(4, .int _), (5, .long _), (0, .ref _), (1, .int _), (2, .int _), (3, .int _)]) rfl ?_
          refine Z_goto 52 rfl (tgt := 29) rfl ?_
          refine Z_pick [0, 1, 2, 3, 4] (lv' := [(0, .ref _), (1, .int _), (2, .int _), (3, .int _), (4, .int _)]) rfl ?_
          first
            | exact ih (i + 1) la nn _ _ (Jw_s h.1 hJ c52) (by rw [h1]; exact cnI_c (fun a _ _ => (cnQ_n hD (by omega) a).symm)) ⟨fun a z => h2.1 a ((cnQ_n hD (by omega) a).mp z), h2.2.imp id (fun z => ⟨(cnQ_n hD (by omega) la).mpr z.1, z.2⟩)⟩ (by omega)
            | (have ey := cnQ_y hD (show conV p.s what (pl p.t kk uu) ≤ 0 by omega)
               have hq : cnQ p.t p.s what w la ∧ 0 ≤ la ∧ la ≤ tot p.t := h2.2.resolve_left (by omega)
               have e2 : ∀ a, cnQ p.t p.s what (nx p.t w) a ↔ cnQ p.t p.s what w a := fun a => (ey a).trans ⟨fun z => z.elim id (fun z => by rw [z, c87]; exact hq.1), Or.inl⟩
               exact ih (i + 1) la nn _ _ (Jw_s h.1 hJ c52) (by rw [h1]; exact cnI_c (fun a _ _ => (e2 a).symm)) ⟨fun a z => h2.1 a ((e2 a).mp z), Or.inr ⟨(e2 la).mpr hq.1, hq.2⟩⟩ (by omega))
            | (have ey := cnQ_y hD (show conV p.s what (pl p.t kk uu) ≤ 0 by omega)
               have hgt : la < (nx p.t w).1 := by
                 rcases h2.2 with z | ⟨⟨k2, u2, z1, z2⟩, -⟩
                 · omega
                 · have := hO _ _ _ z1
                   omega
               have hnq : ¬ cnQ p.t p.s what w (nx p.t w).1 := fun z => by have := h2.1 _ z; omega
               exact ih (i + 1) (nx p.t w).1 (nn + 1) _ _ (Jw_s h.1 hJ c52) (by rw [h1]; exact (cnI_add ey hI.2.2.1 hnq (by omega)).symm) ⟨fun a z => by
                 rcases (ey a).mp z with ⟨k2, u2, z1, z2⟩ | z
                 · exact hO _ _ _ z1
                 · omega, Or.inr ⟨(ey _).mpr (Or.inr rfl), hI.2.2⟩⟩ (by omega))
        · refine Z_aload_n 41 rfl rfl rfl ?_
          refine Z_get 42 rfl f_C_60 rfl rfl ?_
          refine Z_getN 43 rfl f_C_235 rfl rfl ?_
          refine Z_iload_n 44 rfl rfl rfl ?_
          refine Z_icmp_eq 45 rfl (tgt := 101) rfl (by omega) (by omega) (fun c87 => ?_) (fun c87 => ?_)
          · refine Z_iinc 51 rfl rfl (Nat.le_of_ble_eq_true rfl) (lv' := [(4, .int _), (5, .long _), (0, .ref _), (1, .int _), (2, .int _), (3, .int _)]) rfl ?_
            refine Z_goto 52 rfl (tgt := 29) rfl ?_
            refine Z_pick [0, 1, 2, 3, 4] (lv' := [(0, .ref _), (1, .int _), (2, .int _), (3, .int _), (4, .int _)]) rfl ?_
            first
              | exact ih (i + 1) la nn _ _ (Jw_s h.1 hJ c52) (by rw [h1]; exact cnI_c (fun a _ _ => (cnQ_n hD (by omega) a).symm)) ⟨fun a z => h2.1 a ((cnQ_n hD (by omega) a).mp z), h2.2.imp id (fun z => ⟨(cnQ_n hD (by omega) la).mpr z.1, z.2⟩)⟩ (by omega)
              | (have ey := cnQ_y hD (show conV p.s what (pl p.t kk uu) ≤ 0 by omega)
                 have hq : cnQ p.t p.s what w la ∧ 0 ≤ la ∧ la ≤ tot p.t := h2.2.resolve_left (by omega)
                 have e2 : ∀ a, cnQ p.t p.s what (nx p.t w) a ↔ cnQ p.t p.s what w a := fun a => (ey a).trans ⟨fun z => z.elim id (fun z => by rw [z, c87]; exact hq.1), Or.inl⟩
                 exact ih (i + 1) la nn _ _ (Jw_s h.1 hJ c52) (by rw [h1]; exact cnI_c (fun a _ _ => (e2 a).symm)) ⟨fun a z => h2.1 a ((e2 a).mp z), Or.inr ⟨(e2 la).mpr hq.1, hq.2⟩⟩ (by omega))
              | (have ey := cnQ_y hD (show conV p.s what (pl p.t kk uu) ≤ 0 by omega)
                 have hgt : la < (nx p.t w).1 := by
                   rcases h2.2 with z | ⟨⟨k2, u2, z1, z2⟩, -⟩
                   · omega
                   · have := hO _ _ _ z1
                     omega
                 have hnq : ¬ cnQ p.t p.s what w (nx p.t w).1 := fun z => by have := h2.1 _ z; omega
                 exact ih (i + 1) (nx p.t w).1 (nn + 1) _ _ (Jw_s h.1 hJ c52) (by rw [h1]; exact (cnI_add ey hI.2.2.1 hnq (by omega)).symm) ⟨fun a z => by
                   rcases (ey a).mp z with ⟨k2, u2, z1, z2⟩ | z
                   · exact hO _ _ _ z1
                   · omega, Or.inr ⟨(ey _).mpr (Or.inr rfl), hI.2.2⟩⟩ (by omega))
          · refine Z_aload_n 46 rfl rfl rfl ?_
            refine Z_get 47 rfl f_C_60 rfl rfl ?_
            refine Z_getN 48 rfl f_C_235 rfl rfl ?_
            refine Z_istore_n 49 rfl rfl (Nat.le_of_ble_eq_true rfl) (lv' := [(3, .int _), (5, .long _), (0, .ref _), (1, .int _), (2, .int _), (4, .int _)]) rfl ?_
            refine Z_iinc 50 rfl rfl (Nat.le_of_ble_eq_true rfl) (lv' := [(2, .int _), (3, .int _), (5, .long _), (0, .ref _), (1, .int _), (4, .int _)]) rfl ?_
            refine Z_iinc 51 rfl rfl (Nat.le_of_ble_eq_true rfl) (lv' := [(4, .int _), (2, .int _), (3, .int _), (5, .long _), (0, .ref _), (1, .int _)]) rfl ?_
            refine Z_goto 52 rfl (tgt := 29) rfl ?_
            refine Z_pick [0, 1, 2, 3, 4] (lv' := [(0, .ref _), (1, .int _), (2, .int _), (3, .int _), (4, .int _)]) rfl ?_
            first
              | exact ih (i + 1) la nn _ _ (Jw_s h.1 hJ c52) (by rw [h1]; exact cnI_c (fun a _ _ => (cnQ_n hD (by omega) a).symm)) ⟨fun a z => h2.1 a ((cnQ_n hD (by omega) a).mp z), h2.2.imp id (fun z => ⟨(cnQ_n hD (by omega) la).mpr z.1, z.2⟩)⟩ (by omega)
              | (have ey := cnQ_y hD (show conV p.s what (pl p.t kk uu) ≤ 0 by omega)
                 have hq : cnQ p.t p.s what w la ∧ 0 ≤ la ∧ la ≤ tot p.t := h2.2.resolve_left (by omega)
                 have e2 : ∀ a, cnQ p.t p.s what (nx p.t w) a ↔ cnQ p.t p.s what w a := fun a => (ey a).trans ⟨fun z => z.elim id (fun z => by rw [z, c87]; exact hq.1), Or.inl⟩
                 exact ih (i + 1) la nn _ _ (Jw_s h.1 hJ c52) (by rw [h1]; exact cnI_c (fun a _ _ => (e2 a).symm)) ⟨fun a z => h2.1 a ((e2 a).mp z), Or.inr ⟨(e2 la).mpr hq.1, hq.2⟩⟩ (by omega))
              | (have ey := cnQ_y hD (show conV p.s what (pl p.t kk uu) ≤ 0 by omega)
                 have hgt : la < (nx p.t w).1 := by
                   rcases h2.2 with z | ⟨⟨k2, u2, z1, z2⟩, -⟩
                   · omega
                   · have := hO _ _ _ z1
                     omega
                 have hnq : ¬ cnQ p.t p.s what w (nx p.t w).1 := fun z => by have := h2.1 _ z; omega
                 exact ih (i + 1) (nx p.t w).1 (nn + 1) _ _ (Jw_s h.1 hJ c52) (by rw [h1]; exact (cnI_add ey hI.2.2.1 hnq (by omega)).symm) ⟨fun a z => by
                   rcases (ey a).mp z with ⟨k2, u2, z1, z2⟩ | z
                   · exact hO _ _ _ z1
                   · omega, Or.inr ⟨(ey _).mpr (Or.inr rfl), hI.2.2⟩⟩ (by omega))
      · refine Z_aload_n 31 rfl rfl rfl ?_
        refine Z_callVlp (M' := M_C_curveHere) 32 isC rfl l_C_216 C_C_curveHere (c_C_curveHere l p rj (pl p.t kk uu) (nx p.t w) g q q2 sm co h) (emC ..) (Or.inl ⟨_, _, _, _, rfl, rfl⟩) rfl rfl rfl (Nat.le_of_ble_eq_true rfl) ⟨rfl, rfl, Nat.le_of_ble_eq_true rfl, Nat.le_of_ble_eq_true rfl⟩ ⟨Nat.zero_le _, Nat.zero_le _⟩ ?_
        refine Z_goto 33 rfl (tgt := 70) rfl ?_
        refine Z_cl (show _ = conV p.s what (pl p.t kk uu) by unfold conV; first | rw [if_pos (by omega)] | rw [if_neg (by omega)]) ?_
        have hcv : inL (conV p.s what (pl p.t kk uu)) := by unfold conV; split <;> omega
        refine Z_lstore 36 rfl (Nat.le_of_ble_eq_true rfl) (lv' := [(5, .long _), (0, .ref _), (1, .int _), (2, .int _), (3, .int _), (4, .int _)]) rfl ?_
        refine Z_lload 37 rfl rfl ?_
        refine Z_lconst 38 rfl ?_
        refine Z_lc_gt 39 rfl rfl (tgt := 101) rfl (by omega) (by omega) (fun c75 => ?_) (fun c75 => ?_)
        · refine Z_iinc 51 rfl rfl (Nat.le_of_ble_eq_true rfl) (lv' := [(4, .int _), (5, .long _), (0, .ref _), (1, .int _), (2, .int _), (3, .int _)]) rfl ?_
          refine Z_goto 52 rfl (tgt := 29) rfl ?_
          refine Z_pick [0, 1, 2, 3, 4] (lv' := [(0, .ref _), (1, .int _), (2, .int _), (3, .int _), (4, .int _)]) rfl ?_
          first
            | exact ih (i + 1) la nn _ _ (Jw_s h.1 hJ c52) (by rw [h1]; exact cnI_c (fun a _ _ => (cnQ_n hD (by omega) a).symm)) ⟨fun a z => h2.1 a ((cnQ_n hD (by omega) a).mp z), h2.2.imp id (fun z => ⟨(cnQ_n hD (by omega) la).mpr z.1, z.2⟩)⟩ (by omega)
            | (have ey := cnQ_y hD (show conV p.s what (pl p.t kk uu) ≤ 0 by omega)
               have hq : cnQ p.t p.s what w la ∧ 0 ≤ la ∧ la ≤ tot p.t := h2.2.resolve_left (by omega)
               have e2 : ∀ a, cnQ p.t p.s what (nx p.t w) a ↔ cnQ p.t p.s what w a := fun a => (ey a).trans ⟨fun z => z.elim id (fun z => by rw [z, c87]; exact hq.1), Or.inl⟩
               exact ih (i + 1) la nn _ _ (Jw_s h.1 hJ c52) (by rw [h1]; exact cnI_c (fun a _ _ => (e2 a).symm)) ⟨fun a z => h2.1 a ((e2 a).mp z), Or.inr ⟨(e2 la).mpr hq.1, hq.2⟩⟩ (by omega))
            | (have ey := cnQ_y hD (show conV p.s what (pl p.t kk uu) ≤ 0 by omega)
               have hgt : la < (nx p.t w).1 := by
                 rcases h2.2 with z | ⟨⟨k2, u2, z1, z2⟩, -⟩
                 · omega
                 · have := hO _ _ _ z1
                   omega
               have hnq : ¬ cnQ p.t p.s what w (nx p.t w).1 := fun z => by have := h2.1 _ z; omega
               exact ih (i + 1) (nx p.t w).1 (nn + 1) _ _ (Jw_s h.1 hJ c52) (by rw [h1]; exact (cnI_add ey hI.2.2.1 hnq (by omega)).symm) ⟨fun a z => by
                 rcases (ey a).mp z with ⟨k2, u2, z1, z2⟩ | z
                 · exact hO _ _ _ z1
                 · omega, Or.inr ⟨(ey _).mpr (Or.inr rfl), hI.2.2⟩⟩ (by omega))
        · refine Z_aload_n 41 rfl rfl rfl ?_
          refine Z_get 42 rfl f_C_60 rfl rfl ?_
          refine Z_getN 43 rfl f_C_235 rfl rfl ?_
          refine Z_iload_n 44 rfl rfl rfl ?_
          refine Z_icmp_eq 45 rfl (tgt := 101) rfl (by omega) (by omega) (fun c87 => ?_) (fun c87 => ?_)
          · refine Z_iinc 51 rfl rfl (Nat.le_of_ble_eq_true rfl) (lv' := [(4, .int _), (5, .long _), (0, .ref _), (1, .int _), (2, .int _), (3, .int _)]) rfl ?_
            refine Z_goto 52 rfl (tgt := 29) rfl ?_
            refine Z_pick [0, 1, 2, 3, 4] (lv' := [(0, .ref _), (1, .int _), (2, .int _), (3, .int _), (4, .int _)]) rfl ?_
            first
              | exact ih (i + 1) la nn _ _ (Jw_s h.1 hJ c52) (by rw [h1]; exact cnI_c (fun a _ _ => (cnQ_n hD (by omega) a).symm)) ⟨fun a z => h2.1 a ((cnQ_n hD (by omega) a).mp z), h2.2.imp id (fun z => ⟨(cnQ_n hD (by omega) la).mpr z.1, z.2⟩)⟩ (by omega)
              | (have ey := cnQ_y hD (show conV p.s what (pl p.t kk uu) ≤ 0 by omega)
                 have hq : cnQ p.t p.s what w la ∧ 0 ≤ la ∧ la ≤ tot p.t := h2.2.resolve_left (by omega)
                 have e2 : ∀ a, cnQ p.t p.s what (nx p.t w) a ↔ cnQ p.t p.s what w a := fun a => (ey a).trans ⟨fun z => z.elim id (fun z => by rw [z, c87]; exact hq.1), Or.inl⟩
                 exact ih (i + 1) la nn _ _ (Jw_s h.1 hJ c52) (by rw [h1]; exact cnI_c (fun a _ _ => (e2 a).symm)) ⟨fun a z => h2.1 a ((e2 a).mp z), Or.inr ⟨(e2 la).mpr hq.1, hq.2⟩⟩ (by omega))
              | (have ey := cnQ_y hD (show conV p.s what (pl p.t kk uu) ≤ 0 by omega)
                 have hgt : la < (nx p.t w).1 := by
                   rcases h2.2 with z | ⟨⟨k2, u2, z1, z2⟩, -⟩
                   · omega
                   · have := hO _ _ _ z1
                     omega
                 have hnq : ¬ cnQ p.t p.s what w (nx p.t w).1 := fun z => by have := h2.1 _ z; omega
                 exact ih (i + 1) (nx p.t w).1 (nn + 1) _ _ (Jw_s h.1 hJ c52) (by rw [h1]; exact (cnI_add ey hI.2.2.1 hnq (by omega)).symm) ⟨fun a z => by
                   rcases (ey a).mp z with ⟨k2, u2, z1, z2⟩ | z
                   · exact hO _ _ _ z1
                   · omega, Or.inr ⟨(ey _).mpr (Or.inr rfl), hI.2.2⟩⟩ (by omega))
          · refine Z_aload_n 46 rfl rfl rfl ?_
            refine Z_get 47 rfl f_C_60 rfl rfl ?_
            refine Z_getN 48 rfl f_C_235 rfl rfl ?_
            refine Z_istore_n 49 rfl rfl (Nat.le_of_ble_eq_true rfl) (lv' := [(3, .int _), (5, .long _), (0, .ref _), (1, .int _), (2, .int _), (4, .int _)]) rfl ?_
            refine Z_iinc 50 rfl rfl (Nat.le_of_ble_eq_true rfl) (lv' := [(2, .int _), (3, .int _), (5, .long _), (0, .ref _), (1, .int _), (4, .int _)]) rfl ?_
            refine Z_iinc 51 rfl rfl (Nat.le_of_ble_eq_true rfl) (lv' := [(4, .int _), (2, .int _), (3, .int _), (5, .long _), (0, .ref _), (1, .int _)]) rfl ?_
            refine Z_goto 52 rfl (tgt := 29) rfl ?_
            refine Z_pick [0, 1, 2, 3, 4] (lv' := [(0, .ref _), (1, .int _), (2, .int _), (3, .int _), (4, .int _)]) rfl ?_
            first
              | exact ih (i + 1) la nn _ _ (Jw_s h.1 hJ c52) (by rw [h1]; exact cnI_c (fun a _ _ => (cnQ_n hD (by omega) a).symm)) ⟨fun a z => h2.1 a ((cnQ_n hD (by omega) a).mp z), h2.2.imp id (fun z => ⟨(cnQ_n hD (by omega) la).mpr z.1, z.2⟩)⟩ (by omega)
              | (have ey := cnQ_y hD (show conV p.s what (pl p.t kk uu) ≤ 0 by omega)
                 have hq : cnQ p.t p.s what w la ∧ 0 ≤ la ∧ la ≤ tot p.t := h2.2.resolve_left (by omega)
                 have e2 : ∀ a, cnQ p.t p.s what (nx p.t w) a ↔ cnQ p.t p.s what w a := fun a => (ey a).trans ⟨fun z => z.elim id (fun z => by rw [z, c87]; exact hq.1), Or.inl⟩
                 exact ih (i + 1) la nn _ _ (Jw_s h.1 hJ c52) (by rw [h1]; exact cnI_c (fun a _ _ => (e2 a).symm)) ⟨fun a z => h2.1 a ((e2 a).mp z), Or.inr ⟨(e2 la).mpr hq.1, hq.2⟩⟩ (by omega))
              | (have ey := cnQ_y hD (show conV p.s what (pl p.t kk uu) ≤ 0 by omega)
                 have hgt : la < (nx p.t w).1 := by
                   rcases h2.2 with z | ⟨⟨k2, u2, z1, z2⟩, -⟩
                   · omega
                   · have := hO _ _ _ z1
                     omega
                 have hnq : ¬ cnQ p.t p.s what w (nx p.t w).1 := fun z => by have := h2.1 _ z; omega
                 exact ih (i + 1) (nx p.t w).1 (nn + 1) _ _ (Jw_s h.1 hJ c52) (by rw [h1]; exact (cnI_add ey hI.2.2.1 hnq (by omega)).symm) ⟨fun a z => by
                   rcases (ey a).mp z with ⟨k2, u2, z1, z2⟩ | z
                   · exact hO _ _ _ z1
                   · omega, Or.inr ⟨(ey _).mpr (Or.inr rfl), hI.2.2⟩⟩ (by omega))
theorem c_C_count (h : PV p) (what : Int) (hw : inI what) (s : SS) (w : WW) (g : RR) (q : Int × Int) : Con l M_C_count R_C_count 0 0 false [.ref 0, .int (iI what)] (eC p rj s w g q q2 sm co) (zAi (countF p.t p.s what) (EC rj p)) := by
  refine Con.of_Z (by decide) D_C_count (Nat.le_of_ble_eq_true rfl) ?_
  refine Z_iload_n 0 rfl rfl rfl ?_
  refine Z_if_lt 1 rfl (tgt := 9) rfl (by omega) (fun c1 => ?_) (fun c1 => ?_)
  · refine Z_iconst 5 rfl ?_
    refine Z_iret 6 rfl rfl ⟨Nat.le_refl _, Nat.le_refl _⟩ ?_
    exact ⟨by unfold countF; (repeat (first | rw [cif_t (by first | assumption | omega)] | rw [cif_f (by first | assumption | omega)])), _, _, _, _, _, _, _, rfl⟩
  · refine Z_iload_n 2 rfl rfl rfl ?_
    refine Z_iconst 3 rfl ?_
    refine Z_icmp_le 4 rfl (tgt := 11) rfl (by omega) (by omega) (fun c6 => ?_) (fun c6 => ?_)
    · refine Z_iconst 7 rfl ?_
      refine Z_istore_n 8 rfl rfl (Nat.le_of_ble_eq_true rfl) (lv' := [(2, .int _), (0, .ref _), (1, .int _)]) rfl ?_
      refine Z_iconst 9 rfl ?_
      refine Z_istore_n 10 rfl rfl (Nat.le_of_ble_eq_true rfl) (lv' := [(3, .int _), (2, .int _), (0, .ref _), (1, .int _)]) rfl ?_
      refine Z_aload_n 11 rfl rfl rfl ?_
      refine Z_get 12 rfl f_C_60 rfl rfl ?_
      refine Z_aload_n 13 rfl rfl rfl ?_
      refine Z_get 14 rfl f_C_14 rfl rfl ?_
      refine Z_callVv (M' := M_K_start) 15 [21, 1, 2, 3, 4] rfl l_C_227 C_K_start (c_K_start l p.t h.1.1 w) ⟨by decide, (zEL.c (Or.inl rfl) (zEL.c (Or.inl rfl) (zEL.c (Or.inl rfl) (zEL.c (Or.inl rfl) (zEL.c (Or.inl rfl) zEL.n)))))⟩ (Or.inl ⟨_, _, _, _, rfl, rfl⟩) rfl rfl rfl (Nat.le_of_ble_eq_true rfl) ⟨rfl, rfl, Nat.le_of_ble_eq_true rfl, Nat.le_of_ble_eq_true rfl⟩ ⟨Nat.zero_le _, Nat.zero_le _⟩ (fun out hq => ?_)
      obtain rfl := hq
      refine Z_mem (show _ = eC p rj s (wk0 p.t) g q q2 sm co from rfl) ?_
      refine Z_iconst 16 rfl ?_
      refine Z_istore 17 rfl (Nat.le_of_ble_eq_true rfl) (lv' := [(4, .int _), (3, .int _), (2, .int _), (0, .ref _), (1, .int _)]) rfl ?_
      refine Z_pick [0, 1, 2, 3, 4] (lv' := [(0, .ref _), (1, .int _), (2, .int _), (3, .int _), (4, .int _)]) rfl ?_
      unfold countF
      rw [cif_t (by omega)]
      have hno : ∀ a, ¬ cnQ p.t p.s what (wk0 p.t) a := fun a ⟨k, u, z, _⟩ => Dn_0 h.1 z
      have h0 : cnI (cnQ p.t p.s what (wk0 p.t)) (tot p.t + 1) = 0 := by
        have e : ∀ m : Nat, cnt (cnQ p.t p.s what (wk0 p.t)) m = 0 := by
          intro m
          induction m with
          | zero => rfl
          | succ m ih =>
            show cnt _ m + bI _ = 0
            rw [ih, bI_f (hno m)]
            rfl
        exact e _
      exact lp_C_count l p rj q2 sm co h what (by omega) g q 376 0 (-1) 0 s (wk0 p.t) (Jw_0 h.1) h0.symm ⟨fun a z => absurd z (hno a), Or.inl rfl⟩ (by omega)
    · refine Z_iconst 5 rfl ?_
      refine Z_iret 6 rfl rfl ⟨Nat.le_refl _, Nat.le_refl _⟩ ?_
      exact ⟨by unfold countF; (repeat (first | rw [cif_t (by first | assumption | omega)] | rw [cif_f (by first | assumption | omega)])), _, _, _, _, _, _, _, rfl⟩
end C5
