/-! CamPieces: the steepest, the extremes -/
theorem sd_sl {k L r a u : Int} (hk : 0 ≤ k ∧ k ≤ 5) (hL : 1 ≤ L ∧ L ≤ 360) (hr : -99 ≤ r ∧ r ≤ 99) (hu : 0 ≤ u ∧ u ≤ L) : -3117787200000 ≤ (sd k L r a u).2.2.1 ∧ (sd k L r a u).2.2.1 ≤ 3117787200000 := by
  have hv : -360 ≤ L - u ∧ L - u ≤ 360 := by omega
  have hU : -360 ≤ u ∧ u ≤ 360 := by omega
  have m := @mul_ab
  have b1 := Int.mul_nonneg hu.1 (show 0 ≤ L - u by omega)
  have b2 : 0 ≤ (L - 2 * u) * (L - 2 * u) := by
    rcases Int.le_total 0 (L - 2 * u) with h | h
    · exact Int.mul_nonneg h h
    · exact Int.mul_nonneg_of_nonpos_of_nonpos h h
  have b3 := ie5 L u
  have b4 := m (x := L) (y := L) (A := 360) (B := 360) (by omega) (by omega)
  have b5 : -32400 ≤ u * (L - u) ∧ u * (L - u) ≤ 32400 := by omega
  refine kd_cases (P := fun k => -3117787200000 ≤ (sd k L r a u).2.2.1 ∧ (sd k L r a u).2.2.1 ≤ 3117787200000) hk ?_ ?_ ?_ ?_ ?_ ?_
  · show _ ≤ (0 : Int) ∧ (0 : Int) ≤ _
    omega
  · show _ ≤ r ∧ r ≤ _
    omega
  · show _ ≤ 2 * r * u ∧ 2 * r * u ≤ _
    have := m (x := 2 * r) (y := u) (A := 198) (B := 360) (by omega) (by omega)
    omega
  · show _ ≤ 2 * r * (L - u) ∧ 2 * r * (L - u) ≤ _
    have := m (x := 2 * r) (y := L - u) (A := 198) (B := 360) (by omega) (by omega)
    omega
  · show _ ≤ 6 * r * u * (L - u) ∧ 6 * r * u * (L - u) ≤ _
    have e : 6 * r * u * (L - u) = 6 * r * (u * (L - u)) := by grind
    have := m (x := 6 * r) (y := u * (L - u)) (A := 594) (B := 32400) (by omega) (by omega)
    omega
  · show _ ≤ 30 * r * u * u * (L - u) * (L - u) ∧ 30 * r * u * u * (L - u) * (L - u) ≤ _
    have e : 30 * r * u * u * (L - u) * (L - u) = 30 * r * ((u * (L - u)) * (u * (L - u))) := by grind
    have m1 := m b5 b5
    have := m (x := 30 * r) (y := (u * (L - u)) * (u * (L - u))) (A := 2970) (B := 1049760000) (by omega) (by omega)
    omega
theorem pl_sl {t : TT} (h : TV t) {k u : Int} (hk : 0 ≤ k ∧ k < t.2.2.2) (hu : 0 ≤ u ∧ u ≤ t.2.1 k) : -3117787200000 ≤ (pl t k u).2.2.1 ∧ (pl t k u).2.2.1 ≤ 3117787200000 := by
  have hm := h.2.2 k hk.1 hk.2
  unfold mb at hm
  exact sd_sl (by omega) (by omega) (by omega) hu
theorem fr1 {x' r' A B x r : Int} (hB : 0 < B) (hr : 0 < r) (hr' : 0 < r') (h1 : x' * B ≤ A * r') (h2 : A * r < x * B) : x' * r < x * r' := by
  have m1 := Int.mul_le_mul_of_nonneg_right h1 (show 0 ≤ r by omega)
  have m2 := Int.mul_lt_mul_of_pos_right h2 hr'
  have e1 : x' * B * r = B * (x' * r) := by grind
  have e2 : A * r' * r = A * r * r' := by grind
  have e3 : x * B * r' = B * (x * r') := by grind
  exact Int.lt_of_mul_lt_mul_left (show B * (x' * r) < B * (x * r') by omega) (by omega)
/-- the steepest of some places -/
def stW (t : TT) (S : Int → Int) (D : Int → Int → Int → Prop) (v A B : Int) : Prop := ∃ k u, D v k u ∧ A = ab (pl t k u).2.2.1 ∧ B = rch S (pl t k u) ∧ 0 < B ∧ ∀ a' k' u', D a' k' u' → 0 < rch S (pl t k' u') → ab (pl t k' u').2.2.1 * B < A * rch S (pl t k' u') ∨ (ab (pl t k' u').2.2.1 * B = A * rch S (pl t k' u') ∧ v ≤ a')
def IsSt (t : TT) (S : Int → Int) (v : Int) : Prop := (v = -5 ∧ ∀ a k u, Vis t a k u → ¬ 0 < rch S (pl t k u)) ∨ ∃ A B, stW t S (Vis t) v A B
theorem IsSt_un {t : TT} {S : Int → Int} {v v' : Int} (h : IsSt t S v) (h' : IsSt t S v') : v = v' := by
  rcases h with ⟨e, h⟩ | ⟨A, B, k, u, h1, h2, h3, h4, h5⟩ <;> rcases h' with ⟨e', h'⟩ | ⟨A', B', k', u', g1, g2, g3, g4, g5⟩
  · omega
  · exact absurd (g3 ▸ g4) (h _ _ _ g1)
  · exact absurd (h3 ▸ h4) (h' _ _ _ h1)
  · have z1 := h5 _ _ _ g1 (g3 ▸ g4)
    have z2 := g5 _ _ _ h1 (h3 ▸ h4)
    rw [← g2, ← g3] at z1
    rw [← h2, ← h3] at z2
    omega
noncomputable def stA (t : TT) (S : Int → Int) : Int := theI (IsSt t S)
theorem stA_eq {t : TT} {S : Int → Int} {v : Int} (h : IsSt t S v) : stA t S = v := theI_eq h (fun x hx => IsSt_un hx h)
section C6
variable (l : Launch) (p : PS) (rj : RJ) (q2 : Int × Int) (sm co : Int → Int)
theorem lp_C_steepest (h : PV p) (g : RR) : ∀ (d : Nat) (i best : Int) (s : SS) (w : WW) (q : Int × Int), Jw p.t w i → ((best = -5 ∧ ∀ a k u, Dn p.t w a k u → ¬ 0 < rch p.s (pl p.t k u)) ∨ (0 ≤ best ∧ best ≤ 360 ∧ (0 ≤ q.1 ∧ q.1 ≤ 3117787200000) ∧ (0 < q.2 ∧ q.2 ≤ 13822567833600000) ∧ stW p.t p.s (Dn p.t w) best q.1 q.2)) → 375 - i < d → Z (l, M_C_steepest, R_C_steepest, (0, 0), false, zAi (stA p.t p.s) (EC rj p)) 0 0 (eC p rj s w g q q2 sm co) 16 [(0, .ref 0), (1, .int (iI best)), (2, .int (iI i))] [] := by
  have ht := h.1.2.1
  intro d
  induction d with
  | zero => intro i best s w q hJ h1 hd; exfalso; have := Jw_bd h.1 hJ; omega
  | succ d ih =>
    intro i best s w q hJ h1 hd
    have hi := Jw_bd h.1 hJ
    refine Z_iload_n 9 rfl rfl rfl ?_
    refine Z_sipush 10 rfl rfl ?_
    refine Z_icmp_ge 11 rfl (tgt := 118) rfl (by omega) (by omega) (fun c20 => ?_) (fun c20 => ?_)
    · exfalso; omega
    refine Z_aload_n 12 rfl rfl rfl ?_
    refine Z_get 13 rfl f_C_60 rfl rfl ?_
    refine Z_aload_n 14 rfl rfl rfl ?_
    refine Z_get 15 rfl f_C_14 rfl rfl ?_
    refine Z_aload_n 16 rfl rfl rfl ?_
    refine Z_get 17 rfl f_C_53 rfl rfl ?_
    refine Z_callVb (M' := M_K_goOn) 18 [21, 1, 2, 3, 4, 20] rfl l_C_231 C_K_goOn (c_K_goOn l p.t h.1 s w i hJ) ⟨by decide, (zEL.c (Or.inl rfl) (zEL.c (Or.inl rfl) (zEL.c (Or.inl rfl) (zEL.c (Or.inl rfl) (zEL.c (Or.inl rfl) (zEL.c (Or.inl rfl) zEL.n))))))⟩ (Or.inl ⟨_, _, _, _, rfl, rfl⟩) rfl rfl rfl (Nat.le_of_ble_eq_true rfl) ⟨rfl, rfl, Nat.le_of_ble_eq_true rfl, Nat.le_of_ble_eq_true rfl⟩ ⟨Nat.zero_le _, Nat.zero_le _⟩ (fun out hq => ?_)
    obtain rfl := hq
    refine Z_mem (show _ = eC p rj (nsp p.t w s) (nx p.t w) g q q2 sm co from rfl) ?_
    refine Z_ifb_eq 19 rfl (tgt := 118) rfl (fun c38 => ?_) (fun c38 => ?_)
    · refine Z_iload_n 56 rfl rfl rfl ?_
      refine Z_iret 57 rfl rfl ⟨Nat.le_refl _, Nat.le_refl _⟩ ?_
      exact ⟨by
        rw [stA_eq (v := best) ?_]
        rcases h1 with ⟨e, h1⟩ | ⟨b1, b2, b3, b4, k2, u2, z1, z2, z3, z4, z5⟩
        · exact Or.inl ⟨e, (Dn_allE h.1 hJ c38 (fun _ k u => ¬ 0 < rch p.s (pl p.t k u))).mp h1⟩
        · exact Or.inr ⟨q.1, q.2, k2, u2, (Dn_end h.1 hJ c38).mp z1, z2, z3, z4, fun a' k' u' hv => z5 a' k' u' ((Dn_end h.1 hJ c38).mpr hv)⟩, _, _, _, _, _, _, _, rfl⟩
    · obtain ⟨kk, uu, hV, hsp, hD, hO⟩ := wk_step h.1 hJ c38 s
      rw [hsp]
      have hI := Vis_in h.1 hV
      have hbd := pl_bd h.1 hI.1 hI.2.1
      have hb3 := sb_bd h.2.1 hbd
      have hsl := pl_sl h.1 hI.1 hI.2.1
      have hab := ab_bd hsl
      refine Z_aload_n 20 rfl rfl rfl ?_
      refine Z_callVlp (M' := M_C_reachHere) 21 isC rfl l_C_219 C_C_reachHere (c_C_reachHere l p rj (pl p.t kk uu) (nx p.t w) g q q2 sm co h) (emC ..) (Or.inl ⟨_, _, _, _, rfl, rfl⟩) rfl rfl rfl (Nat.le_of_ble_eq_true rfl) ⟨rfl, rfl, Nat.le_of_ble_eq_true rfl, Nat.le_of_ble_eq_true rfl⟩ ⟨Nat.zero_le _, Nat.zero_le _⟩ ?_
      refine Z_lstore_n 22 rfl rfl (Nat.le_of_ble_eq_true rfl) (lv' := [(3, .long _), (0, .ref _), (1, .int _), (2, .int _)]) rfl ?_
      refine Z_aload_n 23 rfl rfl rfl ?_
      refine Z_get 24 rfl f_C_53 rfl rfl ?_
      refine Z_getN 25 rfl f_C_188 rfl rfl ?_
      refine Z_absL 26 rfl l_C_250 b_st_absL b_ini_Math b_cd_absL (by omega) (Nat.le_of_ble_eq_true rfl) ⟨Nat.le_of_ble_eq_true rfl, Nat.zero_le _, Nat.zero_le _⟩ ?_
      refine Z_cl (show _ = ab (pl p.t kk uu).2.2.1 from rfl) ?_
      refine Z_lstore 27 rfl (Nat.le_of_ble_eq_true rfl) (lv' := [(5, .long _), (3, .long _), (0, .ref _), (1, .int _), (2, .int _)]) rfl ?_
      refine Z_lload_n 28 rfl rfl rfl ?_
      refine Z_lconst 29 rfl ?_
      refine Z_lc_gt 30 rfl rfl (tgt := 67) rfl (by omega) (by omega) (fun c60 => ?_) (fun c60 => ?_)
      · refine Z_iload_n 33 rfl rfl rfl ?_
        refine Z_if_lt 34 rfl (tgt := 94) rfl (by omega) (fun c68 => ?_) (fun c68 => ?_)
        · refine Z_aload_n 45 rfl rfl rfl ?_
          refine Z_get 46 rfl f_C_74 rfl rfl ?_
          refine Z_lload 47 rfl rfl ?_
          refine Z_lload_n 48 rfl rfl rfl ?_
          refine Z_callVv (M' := M_Q_become) 49 [23] rfl l_C_260 C_Q_become (c_Q_become l q.1 q.2 (ab (pl p.t kk uu).2.2.1) (rch p.s (pl p.t kk uu))) ⟨by decide, (zEL.c (Or.inl rfl) zEL.n)⟩ (Or.inl ⟨_, _, _, _, rfl, rfl⟩) rfl rfl rfl (Nat.le_of_ble_eq_true rfl) ⟨rfl, rfl, Nat.le_of_ble_eq_true rfl, Nat.le_of_ble_eq_true rfl⟩ ⟨Nat.zero_le _, Nat.zero_le _⟩ (fun out hq => ?_)
          obtain rfl := hq
          refine Z_mem (show _ = eC p rj (pl p.t kk uu) (nx p.t w) g (ab (pl p.t kk uu).2.2.1, rch p.s (pl p.t kk uu)) q2 sm co from rfl) ?_
          refine Z_aload_n 50 rfl rfl rfl ?_
          refine Z_get 51 rfl f_C_60 rfl rfl ?_
          refine Z_getN 52 rfl f_C_235 rfl rfl ?_
          refine Z_istore_n 53 rfl rfl (Nat.le_of_ble_eq_true rfl) (lv' := [(1, .int _), (5, .long _), (3, .long _), (0, .ref _), (2, .int _)]) rfl ?_
          refine Z_iinc 54 rfl rfl (Nat.le_of_ble_eq_true rfl) (lv' := [(2, .int _), (1, .int _), (5, .long _), (3, .long _), (0, .ref _)]) rfl ?_
          refine Z_goto 55 rfl (tgt := 16) rfl ?_
          refine Z_pick [0, 1, 2] (lv' := [(0, .ref _), (1, .int _), (2, .int _)]) rfl ?_
          first
            | (have c60' : ¬ 0 < rch p.s (pl p.t kk uu) := c60
               exact ih (i + 1) best _ _ q (Jw_s h.1 hJ c38) (by
                 rcases h1 with ⟨e, h1⟩ | ⟨b1, b2, b3, b4, k2, u2, z1, z2, z3, z4, z5⟩
                 · exact Or.inl ⟨e, (Dn_all hD (fun _ k u => ¬ 0 < rch p.s (pl p.t k u))).mpr ⟨h1, c60'⟩⟩
                 · refine Or.inr ⟨b1, b2, b3, b4, k2, u2, (hD _ _ _).mpr (Or.inl z1), z2, z3, z4, fun a' k' u' hd2 hr => ?_⟩
                   rcases (hD _ _ _).mp hd2 with y | ⟨-, e2, e3⟩
                   · exact z5 _ _ _ y hr
                   · rw [e2, e3] at hr
                     exact absurd hr c60') (by omega))
            | (have c91' : ¬ q.1 * rch p.s (pl p.t kk uu) < ab (pl p.t kk uu).2.2.1 * q.2 := c91
               exact ih (i + 1) best _ _ q (Jw_s h.1 hJ c38) (by
                 rcases h1 with ⟨e, h1⟩ | ⟨b1, b2, b3, b4, k2, u2, z1, z2, z3, z4, z5⟩
                 · omega
                 · refine Or.inr ⟨b1, b2, b3, b4, k2, u2, (hD _ _ _).mpr (Or.inl z1), z2, z3, z4, fun a' k' u' hd2 hr => ?_⟩
                   rcases (hD _ _ _).mp hd2 with y | ⟨e1, e2, e3⟩
                   · exact z5 _ _ _ y hr
                   · rw [e1, e2, e3]
                     have := hO _ _ _ z1
                     omega) (by omega))
            | exact ih (i + 1) (nx p.t w).1 _ _ _ (Jw_s h.1 hJ c38) (by
                 refine Or.inr ⟨by omega, by omega, hab, ⟨c60, by show rch p.s (pl p.t kk uu) ≤ 13822567833600000; omega⟩, kk, uu, (hD _ _ _).mpr (Or.inr ⟨rfl, rfl, rfl⟩), rfl, rfl, c60, fun a' k' u' hd2 hr => ?_⟩
                 rcases (hD _ _ _).mp hd2 with y | ⟨e1, e2, e3⟩
                 · rcases h1 with ⟨e, h1⟩ | ⟨b1, b2, b3, b4, k2, u2, z1, z2, z3, z4, z5⟩
                   · exact absurd hr (h1 _ _ _ y)
                   · first
                       | (exfalso; omega)
                       | (have c91' : q.1 * rch p.s (pl p.t kk uu) < ab (pl p.t kk uu).2.2.1 * q.2 := c91
                          have y2 := z5 _ _ _ y hr
                          exact Or.inl (fr1 z4 c60 hr (by omega) c91'))
                 · rw [e1, e2, e3]
                   exact Or.inr ⟨rfl, Int.le_refl _⟩) (by omega)
        · refine Z_lload 35 rfl rfl ?_
          refine Z_lload_n 36 rfl rfl rfl ?_
          refine Z_aload_n 37 rfl rfl rfl ?_
          refine Z_get 38 rfl f_C_74 rfl rfl ?_
          refine Z_getN 39 rfl f_C_209 rfl rfl ?_
          refine Z_aload_n 40 rfl rfl rfl ?_
          refine Z_get 41 rfl f_C_74 rfl rfl ?_
          refine Z_getN 42 rfl f_C_212 rfl rfl ?_
          refine Z_callSbp (M' := M_C_isMore) 43 [] rfl l_C_256 C_C_isMore (c_C_isMore l (ab (pl p.t kk uu).2.2.1) (rch p.s (pl p.t kk uu)) q.1 q.2 (by omega) (by omega) (by omega) (by omega) (by have := mul_bd (x := ab (pl p.t kk uu).2.2.1) (y := rch p.s (pl p.t kk uu)) (A := 3117787200000) (B := 13822567833600000) (by omega) (by omega); omega) (by have := mul_bd (x := q.1) (y := q.2) (A := 3117787200000) (B := 13822567833600000) (by omega) (by omega); omega)) ⟨List.nodup_nil, zEL.n⟩ rfl rfl rfl (Nat.le_of_ble_eq_true rfl) ⟨rfl, rfl, Nat.le_of_ble_eq_true rfl, Nat.le_of_ble_eq_true rfl⟩ ⟨Nat.zero_le _, Nat.zero_le _⟩ ?_
          refine Z_ifb_eq 44 rfl (tgt := 112) rfl (fun c91 => ?_) (fun c91 => ?_)
          · refine Z_iinc 54 rfl rfl (Nat.le_of_ble_eq_true rfl) (lv' := [(2, .int _), (5, .long _), (3, .long _), (0, .ref _), (1, .int _)]) rfl ?_
            refine Z_goto 55 rfl (tgt := 16) rfl ?_
            refine Z_pick [0, 1, 2] (lv' := [(0, .ref _), (1, .int _), (2, .int _)]) rfl ?_
            first
              | (have c60' : ¬ 0 < rch p.s (pl p.t kk uu) := c60
                 exact ih (i + 1) best _ _ q (Jw_s h.1 hJ c38) (by
                   rcases h1 with ⟨e, h1⟩ | ⟨b1, b2, b3, b4, k2, u2, z1, z2, z3, z4, z5⟩
                   · exact Or.inl ⟨e, (Dn_all hD (fun _ k u => ¬ 0 < rch p.s (pl p.t k u))).mpr ⟨h1, c60'⟩⟩
                   · refine Or.inr ⟨b1, b2, b3, b4, k2, u2, (hD _ _ _).mpr (Or.inl z1), z2, z3, z4, fun a' k' u' hd2 hr => ?_⟩
                     rcases (hD _ _ _).mp hd2 with y | ⟨-, e2, e3⟩
                     · exact z5 _ _ _ y hr
                     · rw [e2, e3] at hr
                       exact absurd hr c60') (by omega))
              | (have c91' : ¬ q.1 * rch p.s (pl p.t kk uu) < ab (pl p.t kk uu).2.2.1 * q.2 := c91
                 exact ih (i + 1) best _ _ q (Jw_s h.1 hJ c38) (by
                   rcases h1 with ⟨e, h1⟩ | ⟨b1, b2, b3, b4, k2, u2, z1, z2, z3, z4, z5⟩
                   · omega
                   · refine Or.inr ⟨b1, b2, b3, b4, k2, u2, (hD _ _ _).mpr (Or.inl z1), z2, z3, z4, fun a' k' u' hd2 hr => ?_⟩
                     rcases (hD _ _ _).mp hd2 with y | ⟨e1, e2, e3⟩
                     · exact z5 _ _ _ y hr
                     · rw [e1, e2, e3]
                       have := hO _ _ _ z1
                       omega) (by omega))
              | exact ih (i + 1) (nx p.t w).1 _ _ _ (Jw_s h.1 hJ c38) (by
                   refine Or.inr ⟨by omega, by omega, hab, ⟨c60, by show rch p.s (pl p.t kk uu) ≤ 13822567833600000; omega⟩, kk, uu, (hD _ _ _).mpr (Or.inr ⟨rfl, rfl, rfl⟩), rfl, rfl, c60, fun a' k' u' hd2 hr => ?_⟩
                   rcases (hD _ _ _).mp hd2 with y | ⟨e1, e2, e3⟩
                   · rcases h1 with ⟨e, h1⟩ | ⟨b1, b2, b3, b4, k2, u2, z1, z2, z3, z4, z5⟩
                     · exact absurd hr (h1 _ _ _ y)
                     · first
                         | (exfalso; omega)
                         | (have c91' : q.1 * rch p.s (pl p.t kk uu) < ab (pl p.t kk uu).2.2.1 * q.2 := c91
                            have y2 := z5 _ _ _ y hr
                            exact Or.inl (fr1 z4 c60 hr (by omega) c91'))
                   · rw [e1, e2, e3]
                     exact Or.inr ⟨rfl, Int.le_refl _⟩) (by omega)
          · refine Z_aload_n 45 rfl rfl rfl ?_
            refine Z_get 46 rfl f_C_74 rfl rfl ?_
            refine Z_lload 47 rfl rfl ?_
            refine Z_lload_n 48 rfl rfl rfl ?_
            refine Z_callVv (M' := M_Q_become) 49 [23] rfl l_C_260 C_Q_become (c_Q_become l q.1 q.2 (ab (pl p.t kk uu).2.2.1) (rch p.s (pl p.t kk uu))) ⟨by decide, (zEL.c (Or.inl rfl) zEL.n)⟩ (Or.inl ⟨_, _, _, _, rfl, rfl⟩) rfl rfl rfl (Nat.le_of_ble_eq_true rfl) ⟨rfl, rfl, Nat.le_of_ble_eq_true rfl, Nat.le_of_ble_eq_true rfl⟩ ⟨Nat.zero_le _, Nat.zero_le _⟩ (fun out hq => ?_)
            obtain rfl := hq
            refine Z_mem (show _ = eC p rj (pl p.t kk uu) (nx p.t w) g (ab (pl p.t kk uu).2.2.1, rch p.s (pl p.t kk uu)) q2 sm co from rfl) ?_
            refine Z_aload_n 50 rfl rfl rfl ?_
            refine Z_get 51 rfl f_C_60 rfl rfl ?_
            refine Z_getN 52 rfl f_C_235 rfl rfl ?_
            refine Z_istore_n 53 rfl rfl (Nat.le_of_ble_eq_true rfl) (lv' := [(1, .int _), (5, .long _), (3, .long _), (0, .ref _), (2, .int _)]) rfl ?_
            refine Z_iinc 54 rfl rfl (Nat.le_of_ble_eq_true rfl) (lv' := [(2, .int _), (1, .int _), (5, .long _), (3, .long _), (0, .ref _)]) rfl ?_
            refine Z_goto 55 rfl (tgt := 16) rfl ?_
            refine Z_pick [0, 1, 2] (lv' := [(0, .ref _), (1, .int _), (2, .int _)]) rfl ?_
            first
              | (have c60' : ¬ 0 < rch p.s (pl p.t kk uu) := c60
                 exact ih (i + 1) best _ _ q (Jw_s h.1 hJ c38) (by
                   rcases h1 with ⟨e, h1⟩ | ⟨b1, b2, b3, b4, k2, u2, z1, z2, z3, z4, z5⟩
                   · exact Or.inl ⟨e, (Dn_all hD (fun _ k u => ¬ 0 < rch p.s (pl p.t k u))).mpr ⟨h1, c60'⟩⟩
                   · refine Or.inr ⟨b1, b2, b3, b4, k2, u2, (hD _ _ _).mpr (Or.inl z1), z2, z3, z4, fun a' k' u' hd2 hr => ?_⟩
                     rcases (hD _ _ _).mp hd2 with y | ⟨-, e2, e3⟩
                     · exact z5 _ _ _ y hr
                     · rw [e2, e3] at hr
                       exact absurd hr c60') (by omega))
              | (have c91' : ¬ q.1 * rch p.s (pl p.t kk uu) < ab (pl p.t kk uu).2.2.1 * q.2 := c91
                 exact ih (i + 1) best _ _ q (Jw_s h.1 hJ c38) (by
                   rcases h1 with ⟨e, h1⟩ | ⟨b1, b2, b3, b4, k2, u2, z1, z2, z3, z4, z5⟩
                   · omega
                   · refine Or.inr ⟨b1, b2, b3, b4, k2, u2, (hD _ _ _).mpr (Or.inl z1), z2, z3, z4, fun a' k' u' hd2 hr => ?_⟩
                     rcases (hD _ _ _).mp hd2 with y | ⟨e1, e2, e3⟩
                     · exact z5 _ _ _ y hr
                     · rw [e1, e2, e3]
                       have := hO _ _ _ z1
                       omega) (by omega))
              | exact ih (i + 1) (nx p.t w).1 _ _ _ (Jw_s h.1 hJ c38) (by
                   refine Or.inr ⟨by omega, by omega, hab, ⟨c60, by show rch p.s (pl p.t kk uu) ≤ 13822567833600000; omega⟩, kk, uu, (hD _ _ _).mpr (Or.inr ⟨rfl, rfl, rfl⟩), rfl, rfl, c60, fun a' k' u' hd2 hr => ?_⟩
                   rcases (hD _ _ _).mp hd2 with y | ⟨e1, e2, e3⟩
                   · rcases h1 with ⟨e, h1⟩ | ⟨b1, b2, b3, b4, k2, u2, z1, z2, z3, z4, z5⟩
                     · exact absurd hr (h1 _ _ _ y)
                     · first
                         | (exfalso; omega)
                         | (have c91' : q.1 * rch p.s (pl p.t kk uu) < ab (pl p.t kk uu).2.2.1 * q.2 := c91
                            have y2 := z5 _ _ _ y hr
                            exact Or.inl (fr1 z4 c60 hr (by omega) c91'))
                   · rw [e1, e2, e3]
                     exact Or.inr ⟨rfl, Int.le_refl _⟩) (by omega)
      · refine Z_goto 32 rfl (tgt := 112) rfl ?_
        refine Z_iinc 54 rfl rfl (Nat.le_of_ble_eq_true rfl) (lv' := [(2, .int _), (5, .long _), (3, .long _), (0, .ref _), (1, .int _)]) rfl ?_
        refine Z_goto 55 rfl (tgt := 16) rfl ?_
        refine Z_pick [0, 1, 2] (lv' := [(0, .ref _), (1, .int _), (2, .int _)]) rfl ?_
        first
          | (have c60' : ¬ 0 < rch p.s (pl p.t kk uu) := c60
             exact ih (i + 1) best _ _ q (Jw_s h.1 hJ c38) (by
               rcases h1 with ⟨e, h1⟩ | ⟨b1, b2, b3, b4, k2, u2, z1, z2, z3, z4, z5⟩
               · exact Or.inl ⟨e, (Dn_all hD (fun _ k u => ¬ 0 < rch p.s (pl p.t k u))).mpr ⟨h1, c60'⟩⟩
               · refine Or.inr ⟨b1, b2, b3, b4, k2, u2, (hD _ _ _).mpr (Or.inl z1), z2, z3, z4, fun a' k' u' hd2 hr => ?_⟩
                 rcases (hD _ _ _).mp hd2 with y | ⟨-, e2, e3⟩
                 · exact z5 _ _ _ y hr
                 · rw [e2, e3] at hr
                   exact absurd hr c60') (by omega))
          | (have c91' : ¬ q.1 * rch p.s (pl p.t kk uu) < ab (pl p.t kk uu).2.2.1 * q.2 := c91
             exact ih (i + 1) best _ _ q (Jw_s h.1 hJ c38) (by
               rcases h1 with ⟨e, h1⟩ | ⟨b1, b2, b3, b4, k2, u2, z1, z2, z3, z4, z5⟩
               · omega
               · refine Or.inr ⟨b1, b2, b3, b4, k2, u2, (hD _ _ _).mpr (Or.inl z1), z2, z3, z4, fun a' k' u' hd2 hr => ?_⟩
                 rcases (hD _ _ _).mp hd2 with y | ⟨e1, e2, e3⟩
                 · exact z5 _ _ _ y hr
                 · rw [e1, e2, e3]
                   have := hO _ _ _ z1
                   omega) (by omega))
          | exact ih (i + 1) (nx p.t w).1 _ _ _ (Jw_s h.1 hJ c38) (by
               refine Or.inr ⟨by omega, by omega, hab, ⟨c60, by show rch p.s (pl p.t kk uu) ≤ 13822567833600000; omega⟩, kk, uu, (hD _ _ _).mpr (Or.inr ⟨rfl, rfl, rfl⟩), rfl, rfl, c60, fun a' k' u' hd2 hr => ?_⟩
               rcases (hD _ _ _).mp hd2 with y | ⟨e1, e2, e3⟩
               · rcases h1 with ⟨e, h1⟩ | ⟨b1, b2, b3, b4, k2, u2, z1, z2, z3, z4, z5⟩
                 · exact absurd hr (h1 _ _ _ y)
                 · first
                     | (exfalso; omega)
                     | (have c91' : q.1 * rch p.s (pl p.t kk uu) < ab (pl p.t kk uu).2.2.1 * q.2 := c91
                        have y2 := z5 _ _ _ y hr
                        exact Or.inl (fr1 z4 c60 hr (by omega) c91'))
               · rw [e1, e2, e3]
                 exact Or.inr ⟨rfl, Int.le_refl _⟩) (by omega)
theorem c_C_steepest (h : PV p) (s : SS) (w : WW) (g : RR) (q : Int × Int) : Con l M_C_steepest R_C_steepest 0 0 false [.ref 0] (eC p rj s w g q q2 sm co) (zAi (stA p.t p.s) (EC rj p)) := by
  refine Con.of_Z (by decide) D_C_steepest (Nat.le_of_ble_eq_true rfl) ?_
  refine Z_bipush 0 rfl rfl ?_
  refine Z_istore_n 1 rfl rfl (Nat.le_of_ble_eq_true rfl) (lv' := [(1, .int _), (0, .ref _)]) rfl ?_
  refine Z_aload_n 2 rfl rfl rfl ?_
  refine Z_get 3 rfl f_C_60 rfl rfl ?_
  refine Z_aload_n 4 rfl rfl rfl ?_
  refine Z_get 5 rfl f_C_14 rfl rfl ?_
  refine Z_callVv (M' := M_K_start) 6 [21, 1, 2, 3, 4] rfl l_C_227 C_K_start (c_K_start l p.t h.1.1 w) ⟨by decide, (zEL.c (Or.inl rfl) (zEL.c (Or.inl rfl) (zEL.c (Or.inl rfl) (zEL.c (Or.inl rfl) (zEL.c (Or.inl rfl) zEL.n)))))⟩ (Or.inl ⟨_, _, _, _, rfl, rfl⟩) rfl rfl rfl (Nat.le_of_ble_eq_true rfl) ⟨rfl, rfl, Nat.le_of_ble_eq_true rfl, Nat.le_of_ble_eq_true rfl⟩ ⟨Nat.zero_le _, Nat.zero_le _⟩ (fun out hq => ?_)
  obtain rfl := hq
  refine Z_mem (show _ = eC p rj s (wk0 p.t) g q q2 sm co from rfl) ?_
  refine Z_iconst 7 rfl ?_
  refine Z_istore_n 8 rfl rfl (Nat.le_of_ble_eq_true rfl) (lv' := [(2, .int _), (1, .int _), (0, .ref _)]) rfl ?_
  refine Z_pick [0, 1, 2] (lv' := [(0, .ref _), (1, .int _), (2, .int _)]) rfl ?_
  exact lp_C_steepest l p rj q2 sm co h g 376 0 (-5) s (wk0 p.t) q (Jw_0 h.1) (Or.inl ⟨rfl, Dn_all0 h.1 _⟩) (by omega)
/-- the extreme one: where a piece begins or the last one ends -/
def IsEx (t : TT) (sg v : Int) : Prop := ∃ j, 0 ≤ j ∧ j ≤ t.2.2.2 ∧ v = bg t j ∧ ∀ j', 0 ≤ j' → j' ≤ t.2.2.2 → sg * ah t j' < sg * ah t j ∨ (sg * ah t j' = sg * ah t j ∧ bg t j ≤ bg t j')
theorem IsEx_un {t : TT} {sg v v' : Int} (h : IsEx t sg v) (h' : IsEx t sg v') : v = v' := by
  obtain ⟨j, h1, h2, h3, h4⟩ := h
  obtain ⟨j', g1, g2, g3, g4⟩ := h'
  have z1 := h4 j' g1 g2
  have z2 := g4 j h1 h2
  omega
noncomputable def extF (t : TT) (what : Int) : Int := cif (0 ≤ what ∧ what ≤ 1) (cif (t.2.2.2 = 0) (-5) (theI (IsEx t (if what = 0 then 1 else -1)))) (-1)
theorem sg_bd {sg x : Int} (hs : sg = 1 ∨ sg = -1) (hx : -1188 ≤ x ∧ x ≤ 1188) : -1188 ≤ sg * x ∧ sg * x ≤ 1188 := by
  rcases hs with e | e <;> rw [e] <;> omega
theorem lp_C_extreme (h : PV p) (s : SS) (w : WW) (g : RR) (q : Int × Int) (what sg : Int) (hs : sg = 1 ∨ sg = -1) : ∀ (d : Nat) (k j : Int), 0 ≤ k → k ≤ p.t.2.2.2 → p.t.2.2.2 - k < d → 0 ≤ j → j ≤ k → (∀ j', 0 ≤ j' → j' ≤ k → sg * ah p.t j' < sg * ah p.t j ∨ (sg * ah p.t j' = sg * ah p.t j ∧ bg p.t j ≤ bg p.t j')) → Z (l, M_C_extreme, R_C_extreme, (0, 0), false, zAi (theI (IsEx p.t sg)) (fun m => m = eC p rj s w g q q2 sm co)) 0 0 (eC p rj s w g q q2 sm co) 48 [(0, .ref 0), (1, .int (iI what)), (2, .int (iI sg)), (3, .int (iI (bg p.t j))), (4, .int (iI (bg p.t k))), (5, .int (iI (sg * ah p.t k))), (6, .int (iI (sg * ah p.t j))), (7, .int (iI k))] [] := by
  have h1 := h.1.1.1
  intro d
  induction d with
  | zero => intro k j h2 h3 h4; omega
  | succ d ih =>
    intro k j h2 h3 h4 h5 h6 h7
    have e1 := bg_s p.t h2
    have e2 : sg * ah p.t k + p.t.2.2.1 k * sg = sg * ah p.t (k + 1) := by rw [ah_s p.t h2]; grind
    have hb1 := sg_bd hs (ah_bd h.1.1 (show j ≤ 12 by omega))
    refine Z_iload 29 rfl rfl ?_
    refine Z_aload_n 30 rfl rfl rfl ?_
    refine Z_get 31 rfl f_C_14 rfl rfl ?_
    refine Z_callVip (M' := M_T_size) 32 [1, 2, 3, 4] rfl l_C_111 C_T_size (c_T_size l p.t) ⟨by decide, (zEL.c (Or.inl rfl) (zEL.c (Or.inl rfl) (zEL.c (Or.inl rfl) (zEL.c (Or.inl rfl) zEL.n))))⟩ (Or.inl ⟨_, _, _, _, rfl, rfl⟩) rfl rfl rfl (Nat.le_of_ble_eq_true rfl) ⟨rfl, rfl, Nat.le_of_ble_eq_true rfl, Nat.le_of_ble_eq_true rfl⟩ ⟨Nat.zero_le _, Nat.zero_le _⟩ ?_
    refine Z_icmp_ge 33 rfl (tgt := 110) rfl (by omega) (by omega) (fun c57 => ?_) (fun c57 => ?_)
    · refine Z_iload_n 59 rfl rfl rfl ?_
      refine Z_iret 60 rfl rfl ⟨Nat.le_refl _, Nat.le_refl _⟩ ?_
      exact ⟨by rw [theI_eq (P := IsEx p.t sg) (v := bg p.t j) ⟨j, h5, by omega, rfl, fun j' i1 i2 => h7 j' i1 (by omega)⟩ (fun x hx => IsEx_un hx ⟨j, h5, by omega, rfl, fun j' i1 i2 => h7 j' i1 (by omega)⟩)], rfl⟩
    · have hb2 := sg_bd hs (ah_bd h.1.1 (show k + 1 ≤ 12 by omega))
      refine Z_iload 34 rfl rfl ?_
      refine Z_aload_n 35 rfl rfl rfl ?_
      refine Z_get 36 rfl f_C_14 rfl rfl ?_
      refine Z_iload 37 rfl rfl ?_
      refine Z_callVip (M' := M_T_longOf) 38 [1, 2, 3, 4] rfl l_C_125 C_T_longOf (c_T_longOf l p.t k (by omega)) ⟨by decide, (zEL.c (Or.inl rfl) (zEL.c (Or.inl rfl) (zEL.c (Or.inl rfl) (zEL.c (Or.inl rfl) zEL.n))))⟩ (Or.inl ⟨_, _, _, _, rfl, rfl⟩) rfl rfl rfl (Nat.le_of_ble_eq_true rfl) ⟨rfl, rfl, Nat.le_of_ble_eq_true rfl, Nat.le_of_ble_eq_true rfl⟩ ⟨Nat.zero_le _, Nat.zero_le _⟩ ?_
      refine Z_iadd 39 rfl ?_
      refine Z_ci e1.symm ?_
      refine Z_istore 40 rfl (Nat.le_of_ble_eq_true rfl) (lv' := [(4, .int _), (0, .ref _), (1, .int _), (2, .int _), (3, .int _), (5, .int _), (6, .int _), (7, .int _)]) rfl ?_
      refine Z_iload 41 rfl rfl ?_
      refine Z_aload_n 42 rfl rfl rfl ?_
      refine Z_get 43 rfl f_C_14 rfl rfl ?_
      refine Z_iload 44 rfl rfl ?_
      refine Z_callVip (M' := M_T_riseOf) 45 [1, 2, 3, 4] rfl l_C_128 C_T_riseOf (c_T_riseOf l p.t k (by omega)) ⟨by decide, (zEL.c (Or.inl rfl) (zEL.c (Or.inl rfl) (zEL.c (Or.inl rfl) (zEL.c (Or.inl rfl) zEL.n))))⟩ (Or.inl ⟨_, _, _, _, rfl, rfl⟩) rfl rfl rfl (Nat.le_of_ble_eq_true rfl) ⟨rfl, rfl, Nat.le_of_ble_eq_true rfl, Nat.le_of_ble_eq_true rfl⟩ ⟨Nat.zero_le _, Nat.zero_le _⟩ ?_
      refine Z_iload_n 46 rfl rfl rfl ?_
      refine Z_imul 47 rfl ?_
      refine Z_iadd 48 rfl ?_
      refine Z_ci e2 ?_
      refine Z_istore 49 rfl (Nat.le_of_ble_eq_true rfl) (lv' := [(5, .int _), (4, .int _), (0, .ref _), (1, .int _), (2, .int _), (3, .int _), (6, .int _), (7, .int _)]) rfl ?_
      refine Z_iload 50 rfl rfl ?_
      refine Z_iload 51 rfl rfl ?_
      refine Z_icmp_le 52 rfl (tgt := 104) rfl (by omega) (by omega) (fun c94 => ?_) (fun c94 => ?_)
      · refine Z_iinc 57 rfl rfl (Nat.le_of_ble_eq_true rfl) (lv' := [(7, .int _), (5, .int _), (4, .int _), (0, .ref _), (1, .int _), (2, .int _), (3, .int _), (6, .int _)]) rfl ?_
        refine Z_goto 58 rfl (tgt := 48) rfl ?_
        refine Z_pick [0, 1, 2, 3, 4, 5, 6, 7] (lv' := [(0, .ref _), (1, .int _), (2, .int _), (3, .int _), (4, .int _), (5, .int _), (6, .int _), (7, .int _)]) rfl ?_
        have hm := bg_mono h.1.1 h5 (show j ≤ k + 1 by omega)
        first
          | exact ih (k + 1) j (by omega) (by omega) (by omega) h5 (by omega) (fun j' i1 i2 => by
              by_cases e : j' = k + 1
              · rw [e]; omega
              · exact h7 j' i1 (by omega))
          | exact ih (k + 1) (k + 1) (by omega) (by omega) (by omega) (by omega) (by omega) (fun j' i1 i2 => by
              by_cases e : j' = k + 1
              · rw [e]; omega
              · have := h7 j' i1 (by omega); omega)
      · refine Z_iload 53 rfl rfl ?_
        refine Z_istore 54 rfl (Nat.le_of_ble_eq_true rfl) (lv' := [(6, .int _), (5, .int _), (4, .int _), (0, .ref _), (1, .int _), (2, .int _), (3, .int _), (7, .int _)]) rfl ?_
        refine Z_iload 55 rfl rfl ?_
        refine Z_istore_n 56 rfl rfl (Nat.le_of_ble_eq_true rfl) (lv' := [(3, .int _), (6, .int _), (5, .int _), (4, .int _), (0, .ref _), (1, .int _), (2, .int _), (7, .int _)]) rfl ?_
        refine Z_iinc 57 rfl rfl (Nat.le_of_ble_eq_true rfl) (lv' := [(7, .int _), (3, .int _), (6, .int _), (5, .int _), (4, .int _), (0, .ref _), (1, .int _), (2, .int _)]) rfl ?_
        refine Z_goto 58 rfl (tgt := 48) rfl ?_
        refine Z_pick [0, 1, 2, 3, 4, 5, 6, 7] (lv' := [(0, .ref _), (1, .int _), (2, .int _), (3, .int _), (4, .int _), (5, .int _), (6, .int _), (7, .int _)]) rfl ?_
        have hm := bg_mono h.1.1 h5 (show j ≤ k + 1 by omega)
        first
          | exact ih (k + 1) j (by omega) (by omega) (by omega) h5 (by omega) (fun j' i1 i2 => by
              by_cases e : j' = k + 1
              · rw [e]; omega
              · exact h7 j' i1 (by omega))
          | exact ih (k + 1) (k + 1) (by omega) (by omega) (by omega) (by omega) (by omega) (fun j' i1 i2 => by
              by_cases e : j' = k + 1
              · rw [e]; omega
              · have := h7 j' i1 (by omega); omega)
theorem c_C_extreme (h : PV p) (what : Int) (hw : inI what) (s : SS) (w : WW) (g : RR) (q : Int × Int) : Con l M_C_extreme R_C_extreme 0 0 false [.ref 0, .int (iI what)] (eC p rj s w g q q2 sm co) (zAi (extF p.t what) (fun m => m = eC p rj s w g q q2 sm co)) := by
  have h1 := h.1.1.1
  refine Con.of_Z (by decide) D_C_extreme (Nat.le_of_ble_eq_true rfl) ?_
  refine Z_iload_n 0 rfl rfl rfl ?_
  refine Z_if_lt 1 rfl (tgt := 9) rfl (by omega) (fun c1 => ?_) (fun c1 => ?_)
  · refine Z_iconst 5 rfl ?_
    refine Z_iret 6 rfl rfl ⟨Nat.le_refl _, Nat.le_refl _⟩ ?_
    exact ⟨by unfold extF; (repeat (first | rw [cif_t (by first | assumption | omega)] | rw [cif_f (by first | assumption | omega)])), rfl⟩
  · refine Z_iload_n 2 rfl rfl rfl ?_
    refine Z_iconst 3 rfl ?_
    refine Z_icmp_le 4 rfl (tgt := 11) rfl (by omega) (by omega) (fun c6 => ?_) (fun c6 => ?_)
    · refine Z_aload_n 7 rfl rfl rfl ?_
      refine Z_get 8 rfl f_C_14 rfl rfl ?_
      refine Z_callVip (M' := M_T_size) 9 [1, 2, 3, 4] rfl l_C_111 C_T_size (c_T_size l p.t) ⟨by decide, (zEL.c (Or.inl rfl) (zEL.c (Or.inl rfl) (zEL.c (Or.inl rfl) (zEL.c (Or.inl rfl) zEL.n))))⟩ (Or.inl ⟨_, _, _, _, rfl, rfl⟩) rfl rfl rfl (Nat.le_of_ble_eq_true rfl) ⟨rfl, rfl, Nat.le_of_ble_eq_true rfl, Nat.le_of_ble_eq_true rfl⟩ ⟨Nat.zero_le _, Nat.zero_le _⟩ ?_
      refine Z_if_ne 10 rfl (tgt := 24) rfl (by omega) (fun c18 => ?_) (fun c18 => ?_)
      · refine Z_iload_n 13 rfl rfl rfl ?_
        refine Z_if_ne 14 rfl (tgt := 32) rfl (by omega) (fun c25 => ?_) (fun c25 => ?_)
        · refine Z_iconst 17 rfl ?_
          refine Z_istore_n 18 rfl rfl (Nat.le_of_ble_eq_true rfl) (lv' := [(2, .int _), (0, .ref _), (1, .int _)]) rfl ?_
          refine Z_iconst 19 rfl ?_
          refine Z_istore_n 20 rfl rfl (Nat.le_of_ble_eq_true rfl) (lv' := [(3, .int _), (2, .int _), (0, .ref _), (1, .int _)]) rfl ?_
          refine Z_iconst 21 rfl ?_
          refine Z_istore 22 rfl (Nat.le_of_ble_eq_true rfl) (lv' := [(4, .int _), (3, .int _), (2, .int _), (0, .ref _), (1, .int _)]) rfl ?_
          refine Z_iconst 23 rfl ?_
          refine Z_istore 24 rfl (Nat.le_of_ble_eq_true rfl) (lv' := [(5, .int _), (4, .int _), (3, .int _), (2, .int _), (0, .ref _), (1, .int _)]) rfl ?_
          refine Z_iconst 25 rfl ?_
          refine Z_istore 26 rfl (Nat.le_of_ble_eq_true rfl) (lv' := [(6, .int _), (5, .int _), (4, .int _), (3, .int _), (2, .int _), (0, .ref _), (1, .int _)]) rfl ?_
          refine Z_iconst 27 rfl ?_
          refine Z_istore 28 rfl (Nat.le_of_ble_eq_true rfl) (lv' := [(7, .int _), (6, .int _), (5, .int _), (4, .int _), (3, .int _), (2, .int _), (0, .ref _), (1, .int _)]) rfl ?_
          refine Z_pick [0, 1, 2, 3, 4, 5, 6, 7] (lv' := [(0, .ref _), (1, .int _), (2, .int _), (3, .int _), (4, .int _), (5, .int _), (6, .int _), (7, .int _)]) rfl ?_
          unfold extF
          rw [cif_t (by omega), cif_f (by omega)]
          first
            | (rw [if_pos (by omega)]
               exact lp_C_extreme l p rj q2 sm co h s w g q what 1 (Or.inl rfl) 13 0 0 (by omega) (by omega) (by omega) (by omega) (by omega) (fun j' i1 i2 => by rw [show j' = 0 by omega]; exact Or.inr ⟨rfl, Int.le_refl _⟩))
            | (rw [if_neg (by omega)]
               exact lp_C_extreme l p rj q2 sm co h s w g q what (-1) (Or.inr rfl) 13 0 0 (by omega) (by omega) (by omega) (by omega) (by omega) (fun j' i1 i2 => by rw [show j' = 0 by omega]; exact Or.inr ⟨rfl, Int.le_refl _⟩))
        · refine Z_iconst 15 rfl ?_
          refine Z_goto 16 rfl (tgt := 33) rfl ?_
          refine Z_istore_n 18 rfl rfl (Nat.le_of_ble_eq_true rfl) (lv' := [(2, .int _), (0, .ref _), (1, .int _)]) rfl ?_
          refine Z_iconst 19 rfl ?_
          refine Z_istore_n 20 rfl rfl (Nat.le_of_ble_eq_true rfl) (lv' := [(3, .int _), (2, .int _), (0, .ref _), (1, .int _)]) rfl ?_
          refine Z_iconst 21 rfl ?_
          refine Z_istore 22 rfl (Nat.le_of_ble_eq_true rfl) (lv' := [(4, .int _), (3, .int _), (2, .int _), (0, .ref _), (1, .int _)]) rfl ?_
          refine Z_iconst 23 rfl ?_
          refine Z_istore 24 rfl (Nat.le_of_ble_eq_true rfl) (lv' := [(5, .int _), (4, .int _), (3, .int _), (2, .int _), (0, .ref _), (1, .int _)]) rfl ?_
          refine Z_iconst 25 rfl ?_
          refine Z_istore 26 rfl (Nat.le_of_ble_eq_true rfl) (lv' := [(6, .int _), (5, .int _), (4, .int _), (3, .int _), (2, .int _), (0, .ref _), (1, .int _)]) rfl ?_
          refine Z_iconst 27 rfl ?_
          refine Z_istore 28 rfl (Nat.le_of_ble_eq_true rfl) (lv' := [(7, .int _), (6, .int _), (5, .int _), (4, .int _), (3, .int _), (2, .int _), (0, .ref _), (1, .int _)]) rfl ?_
          refine Z_pick [0, 1, 2, 3, 4, 5, 6, 7] (lv' := [(0, .ref _), (1, .int _), (2, .int _), (3, .int _), (4, .int _), (5, .int _), (6, .int _), (7, .int _)]) rfl ?_
          unfold extF
          rw [cif_t (by omega), cif_f (by omega)]
          first
            | (rw [if_pos (by omega)]
               exact lp_C_extreme l p rj q2 sm co h s w g q what 1 (Or.inl rfl) 13 0 0 (by omega) (by omega) (by omega) (by omega) (by omega) (fun j' i1 i2 => by rw [show j' = 0 by omega]; exact Or.inr ⟨rfl, Int.le_refl _⟩))
            | (rw [if_neg (by omega)]
               exact lp_C_extreme l p rj q2 sm co h s w g q what (-1) (Or.inr rfl) 13 0 0 (by omega) (by omega) (by omega) (by omega) (by omega) (fun j' i1 i2 => by rw [show j' = 0 by omega]; exact Or.inr ⟨rfl, Int.le_refl _⟩))
      · refine Z_bipush 11 rfl rfl ?_
        refine Z_iret 12 rfl rfl ⟨Nat.le_refl _, Nat.le_refl _⟩ ?_
        exact ⟨by unfold extF; (repeat (first | rw [cif_t (by first | assumption | omega)] | rw [cif_f (by first | assumption | omega)])), rfl⟩
    · refine Z_iconst 5 rfl ?_
      refine Z_iret 6 rfl rfl ⟨Nat.le_refl _, Nat.le_refl _⟩ ?_
      exact ⟨by unfold extF; (repeat (first | rw [cif_t (by first | assumption | omega)] | rw [cif_f (by first | assumption | omega)])), rfl⟩
end C6
