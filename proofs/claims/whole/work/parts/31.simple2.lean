/-! CamPieces: mirror, alike, unlike, the steepest, what is told of an angle; rows, the image, the tape's bytes -/
theorem sI_c {f g : Int → Int} {n : Int} (h : ∀ i, 0 ≤ i → i < n → f i = g i) : sI f n = sI g n := by
  unfold sI
  have key : ∀ m : Nat, (m : Int) ≤ n ∨ m = 0 → sm f m = sm g m := by
    intro m
    induction m with
    | zero => intro _; rfl
    | succ m ih =>
      intro hm
      show sm f m + f (m : Int) = sm g m + g (m : Int)
      rw [ih (by omega), h m (by omega) (by omega)]
  exact key n.toNat (by omega)
theorem sI_rev (f : Int → Int) {n : Int} (hn : 0 ≤ n) : sI (fun i => f (n - 1 - i)) n = sI f n := by
  have key : ∀ m : Nat, (m : Int) ≤ n → sI (fun i => f (n - 1 - i)) m + sI f (n - m) = sI f n := by
    intro m
    induction m with
    | zero =>
      intro _
      show 0 + sI f (n - 0) = sI f n
      rw [Int.sub_zero, Int.zero_add]
    | succ m ih =>
      intro hm
      have h1 := ih (by omega)
      have h2 := sI_s (fun i => f (n - 1 - i)) (show 0 ≤ (m : Int) by omega)
      have h3 := sI_s f (show 0 ≤ n - (m : Int) - 1 by omega)
      rw [show n - (m : Int) - 1 + 1 = n - m by omega] at h3
      rw [show ((m + 1 : Nat) : Int) = (m : Int) + 1 by omega, h2, show n - ((m : Int) + 1) = n - m - 1 by omega]
      show sI (fun i => f (n - 1 - i)) m + f (n - 1 - m) + sI f (n - m - 1) = sI f n
      rw [show n - 1 - (m : Int) = n - m - 1 by omega]
      omega
  have h1 := key n.toNat (by omega)
  rw [show ((n.toNat : Nat) : Int) = n by omega, show n - n = 0 by omega, sI_0] at h1
  omega
theorem tnF_i {n : Int} {g F : Int → Int} {i : Int} (h0 : 0 ≤ i) (h1 : i < n) : tnF n g F n (-1) i = g (F (n - 1 - i)) := by
  unfold tnF
  rw [if_pos (by omega)]
theorem tnF_b {n : Int} {g F : Int → Int} {lo hi : Int} (hF : ∀ i, lo ≤ F i ∧ F i ≤ hi) (hg : ∀ x, lo ≤ x → x ≤ hi → lo ≤ g x ∧ g x ≤ hi) (a b i : Int) : lo ≤ tnF n g F a b i ∧ tnF n g F a b i ≤ hi := by
  unfold tnF
  split
  · exact hg _ (hF _).1 (hF _).2
  · exact hF i
theorem mir_tot {t : TT} (h : 0 ≤ t.2.2.2) : tot (mirT t) = tot t := by
  show sI (tnF t.2.2.2 (fun x => x) t.2.1 t.2.2.2 (-1)) t.2.2.2 = sI t.2.1 t.2.2.2
  rw [← sI_rev t.2.1 h]
  exact sI_c (fun i h0 h1 => tnF_i h0 h1)
theorem TV_mir {t : TT} (h : TV t) : TV (mirT t) := by
  have h1 := h.1.1
  refine ⟨⟨h1, ?_, ?_, ?_⟩, ?_, ?_⟩
  · exact fun i => tnF_b (lo := 0) (hi := 5) h.1.2.1 (fun x h2 h3 => by unfold tk; split; omega; split <;> omega) _ _ i
  · exact fun i => tnF_b (lo := 0) (hi := 360) h.1.2.2.1 (fun x h2 h3 => ⟨h2, h3⟩) _ _ i
  · exact fun i => tnF_b (lo := -99) (hi := 99) h.1.2.2.2 (fun x h2 h3 => by omega) _ _ i
  · rw [mir_tot h1.1]
    exact h.2.1
  · intro k h2 h3
    have hm := h.2.2 (t.2.2.2 - 1 - k) (by have : k < t.2.2.2 := h3; omega) (by omega)
    show mb (tnF t.2.2.2 tk t.1 t.2.2.2 (-1) k) (tnF t.2.2.2 (fun x => x) t.2.1 t.2.2.2 (-1) k) (tnF t.2.2.2 (fun x => -x) t.2.2.1 t.2.2.2 (-1) k)
    have h4 : k < t.2.2.2 := h3
    rw [tnF_i h2 h4, tnF_i h2 h4, tnF_i h2 h4]
    unfold mb at hm ⊢
    unfold tk
    split
    · omega
    · split <;> omega
theorem bg_fd {t : TT} {a : Int} (h0 : 0 < a) : ∀ m : Nat, a ≤ bg t m → ∃ k, 0 ≤ k ∧ k < (m : Int) ∧ bg t k < a ∧ a ≤ bg t k + t.2.1 k := by
  intro m
  induction m with
  | zero =>
    intro hz
    have e : bg t ((0 : Nat) : Int) = 0 := rfl
    omega
  | succ m ih =>
    intro hz
    by_cases h1 : a ≤ bg t m
    · obtain ⟨kk, h2, h3, h4⟩ := ih h1
      exact ⟨kk, h2, by omega, h4⟩
    · have e := bg_s t (show 0 ≤ (m : Int) by omega)
      rw [show ((m + 1 : Nat) : Int) = (m : Int) + 1 by omega, e] at hz
      exact ⟨m, by omega, by omega, by omega, hz⟩
theorem At_ex {t : TT} (h : TV t) (hn : 0 < t.2.2.2) {a : Int} (h0 : 0 ≤ a) (h1 : a ≤ tot t) : ∃ k u, At t a (if a = 0 then 1 else 0) k u := by
  by_cases hz : a = 0
  · rw [if_pos hz]
    have hl := TV_L h (Int.le_refl 0) hn
    exact ⟨0, 0, Or.inl ⟨Int.le_refl 0, hn, by rw [hz]; rfl, Or.inr ⟨rfl, Int.le_refl 0, by omega⟩⟩⟩
  · rw [if_neg hz]
    have e : tot t = bg t (t.2.2.2.toNat : Int) := by rw [Int.toNat_of_nonneg (by omega)]; rfl
    obtain ⟨kk, h2, h3, h4, h5⟩ := bg_fd (t := t) (a := a) (by omega) t.2.2.2.toNat (by omega)
    exact ⟨kk, a - bg t kk, Or.inl ⟨h2, by omega, by omega, Or.inl ⟨rfl, by omega, by omega⟩⟩⟩
section C3
variable (l : Launch) (p : PS) (rj : RJ) (s : SS) (w : WW) (g : RR) (q q2 : Int × Int) (sm co : Int → Int)
theorem c_C_mirror (h : PV p) : Con l M_C_mirror R_C_mirror 0 0 false [.ref 0] (eC p rj s w g q q2 sm co) (zAi (tot (mirT p.t)) (fun m => m = eC (mirT p.t, p.2) rj s w g q q2 sm co)) := by
  refine Con.of_Z (by decide) D_C_mirror (Nat.le_of_ble_eq_true rfl) ?_
  refine Z_aload_n 0 rfl rfl rfl ?_
  refine Z_get 1 rfl f_C_14 rfl rfl ?_
  refine Z_callVv (M' := M_T_turn) 2 [1, 2, 3, 4] rfl l_C_163 C_T_turn (c_T_turn l p.t h.1.1) ⟨by decide, (zEL.c (Or.inl rfl) (zEL.c (Or.inl rfl) (zEL.c (Or.inl rfl) (zEL.c (Or.inl rfl) zEL.n))))⟩ (Or.inl ⟨_, _, _, _, rfl, rfl⟩) rfl rfl rfl (Nat.le_of_ble_eq_true rfl) ⟨rfl, rfl, Nat.le_of_ble_eq_true rfl, Nat.le_of_ble_eq_true rfl⟩ ⟨Nat.zero_le _, Nat.zero_le _⟩ (fun out hq => ?_)
  obtain rfl := hq
  refine Z_mem (show _ = eC (mirT p.t, p.2) rj s w g q q2 sm co from rfl) ?_
  refine Z_aload_n 3 rfl rfl rfl ?_
  refine Z_get 4 rfl f_C_14 rfl rfl ?_
  refine Z_callVip (M' := M_T_total) 5 [1, 2, 3, 4] rfl l_C_103 C_T_total (c_T_total l (mirT p.t) (TV_mir h.1).1) ⟨by decide, (zEL.c (Or.inl rfl) (zEL.c (Or.inl rfl) (zEL.c (Or.inl rfl) (zEL.c (Or.inl rfl) zEL.n))))⟩ (Or.inl ⟨_, _, _, _, rfl, rfl⟩) rfl rfl rfl (Nat.le_of_ble_eq_true rfl) ⟨rfl, rfl, Nat.le_of_ble_eq_true rfl, Nat.le_of_ble_eq_true rfl⟩ ⟨Nat.zero_le _, Nat.zero_le _⟩ ?_
  refine Z_iret 6 rfl rfl ⟨Nat.le_refl _, Nat.le_refl _⟩ ?_
  exact ⟨rfl, rfl⟩
theorem lp_C_alike (h : PV p) (j : Int) (hj : 0 ≤ j ∧ j < p.t.2.2.2) : ∀ (d : Nat) (k : Int), 0 ≤ k → k ≤ p.t.2.2.2 → p.t.2.2.2 - k < d → Z (l, M_C_alike, R_C_alike, (0, 0), false, zAi (cnI (fun i => alk p.t i j) p.t.2.2.2) (fun m => m = eC p rj s w g q q2 sm co)) 0 0 (eC p rj s w g q q2 sm co) 17 [(0, .ref 0), (1, .int (iI j)), (2, .int (iI (cnI (fun i => alk p.t i j) k))), (3, .int (iI k))] [] := by
  have h1 := h.1.1.1
  intro d
  induction d with
  | zero => intro k h2 h3 h4; omega
  | succ d ih =>
    intro k h2 h3 h4
    have e := cnI_s (fun i => alk p.t i j) h2
    refine Z_iload_n 11 rfl rfl rfl ?_
    refine Z_aload_n 12 rfl rfl rfl ?_
    refine Z_get 13 rfl f_C_14 rfl rfl ?_
    refine Z_callVip (M' := M_T_size) 14 [1, 2, 3, 4] rfl l_C_111 C_T_size (c_T_size l p.t) ⟨by decide, (zEL.c (Or.inl rfl) (zEL.c (Or.inl rfl) (zEL.c (Or.inl rfl) (zEL.c (Or.inl rfl) zEL.n))))⟩ (Or.inl ⟨_, _, _, _, rfl, rfl⟩) rfl rfl rfl (Nat.le_of_ble_eq_true rfl) ⟨rfl, rfl, Nat.le_of_ble_eq_true rfl, Nat.le_of_ble_eq_true rfl⟩ ⟨Nat.zero_le _, Nat.zero_le _⟩ ?_
    refine Z_icmp_ge 15 rfl (tgt := 49) rfl (by omega) (by omega) (fun c25 => ?_) (fun c25 => ?_)
    · refine Z_iload_n 25 rfl rfl rfl ?_
      refine Z_iret 26 rfl rfl ⟨Nat.le_refl _, Nat.le_refl _⟩ ?_
      exact ⟨by rw [show p.t.2.2.2 = k by omega], rfl⟩
    · refine Z_aload_n 16 rfl rfl rfl ?_
      refine Z_get 17 rfl f_C_14 rfl rfl ?_
      refine Z_iload_n 18 rfl rfl rfl ?_
      refine Z_iload_n 19 rfl rfl rfl ?_
      refine Z_callVbp (M' := M_T_areAlike) 20 [1, 2, 3, 4] rfl l_C_166 C_T_areAlike (c_T_areAlike l p.t h.1.1 k j (by omega) (by omega)) ⟨by decide, (zEL.c (Or.inl rfl) (zEL.c (Or.inl rfl) (zEL.c (Or.inl rfl) (zEL.c (Or.inl rfl) zEL.n))))⟩ (Or.inl ⟨_, _, _, _, rfl, rfl⟩) rfl rfl rfl (Nat.le_of_ble_eq_true rfl) ⟨rfl, rfl, Nat.le_of_ble_eq_true rfl, Nat.le_of_ble_eq_true rfl⟩ ⟨Nat.zero_le _, Nat.zero_le _⟩ ?_
      refine Z_ifb_eq 21 rfl (tgt := 43) rfl (fun c37 => ?_) (fun c37 => ?_)
      · first | rw [show bI ((fun i => alk p.t i j) k) = 0 from bI_f c37] at e | skip
        refine Z_iinc 23 rfl rfl (Nat.le_of_ble_eq_true rfl) (lv' := [(3, .int _), (0, .ref _), (1, .int _), (2, .int _)]) rfl ?_
        refine Z_goto 24 rfl (tgt := 17) rfl ?_
        refine Z_pick [0, 1, 2, 3] (lv' := [(0, .ref _), (1, .int _), (2, .int _), (3, .int _)]) rfl ?_
        have hz := ih (k + 1) (by omega) (by omega) (by omega)
        rw [e] at hz
        first | exact hz | (rw [Int.add_zero] at hz; exact hz)
      · rw [show bI ((fun i => alk p.t i j) k) = 1 from bI_t c37] at e
        refine Z_iinc 22 rfl rfl (Nat.le_of_ble_eq_true rfl) (lv' := [(2, .int _), (0, .ref _), (1, .int _), (3, .int _)]) rfl ?_
        first | rw [show bI ((fun i => alk p.t i j) k) = 0 from bI_f c37] at e | skip
        refine Z_iinc 23 rfl rfl (Nat.le_of_ble_eq_true rfl) (lv' := [(3, .int _), (2, .int _), (0, .ref _), (1, .int _)]) rfl ?_
        refine Z_goto 24 rfl (tgt := 17) rfl ?_
        refine Z_pick [0, 1, 2, 3] (lv' := [(0, .ref _), (1, .int _), (2, .int _), (3, .int _)]) rfl ?_
        have hz := ih (k + 1) (by omega) (by omega) (by omega)
        rw [e] at hz
        first | exact hz | (rw [Int.add_zero] at hz; exact hz)
theorem c_C_alike (h : PV p) (j : Int) (hj : inI j) : Con l M_C_alike R_C_alike 0 0 false [.ref 0, .int (iI j)] (eC p rj s w g q q2 sm co) (zAi (alikeF p.t j) (fun m => m = eC p rj s w g q q2 sm co)) := by
  have h1 := h.1.1.1
  refine Con.of_Z (by decide) D_C_alike (Nat.le_of_ble_eq_true rfl) ?_
  refine Z_aload_n 0 rfl rfl rfl ?_
  refine Z_get 1 rfl f_C_14 rfl rfl ?_
  refine Z_iload_n 2 rfl rfl rfl ?_
  refine Z_callVbp (M' := M_T_has) 3 [1, 2, 3, 4] rfl l_C_117 C_T_has (c_T_has l p.t h.1.1 j hj) ⟨by decide, (zEL.c (Or.inl rfl) (zEL.c (Or.inl rfl) (zEL.c (Or.inl rfl) (zEL.c (Or.inl rfl) zEL.n))))⟩ (Or.inl ⟨_, _, _, _, rfl, rfl⟩) rfl rfl rfl (Nat.le_of_ble_eq_true rfl) ⟨rfl, rfl, Nat.le_of_ble_eq_true rfl, Nat.le_of_ble_eq_true rfl⟩ ⟨Nat.zero_le _, Nat.zero_le _⟩ ?_
  refine Z_ifb_ne 4 rfl (tgt := 13) rfl (fun c8 => ?_) (fun c8 => ?_)
  · refine Z_iconst 7 rfl ?_
    refine Z_istore_n 8 rfl rfl (Nat.le_of_ble_eq_true rfl) (lv' := [(2, .int _), (0, .ref _), (1, .int _)]) rfl ?_
    refine Z_iconst 9 rfl ?_
    refine Z_istore_n 10 rfl rfl (Nat.le_of_ble_eq_true rfl) (lv' := [(3, .int _), (2, .int _), (0, .ref _), (1, .int _)]) rfl ?_
    refine Z_pick [0, 1, 2, 3] (lv' := [(0, .ref _), (1, .int _), (2, .int _), (3, .int _)]) rfl ?_
    have hz := lp_C_alike l p rj s w g q q2 sm co h j c8 13 0 (by omega) (by omega) (by omega)
    unfold alikeF
    rw [cif_t c8]
    exact hz
  · refine Z_iconst 5 rfl ?_
    refine Z_iret 6 rfl rfl ⟨Nat.le_refl _, Nat.le_refl _⟩ ?_
    exact ⟨by unfold alikeF; repeat (first | rw [cif_t (by first | assumption | omega)] | rw [cif_f (by first | assumption | omega)]), rfl⟩
theorem lp_C_unlike (h : PV p) (k : Int) (hk : inI k) : ∀ (d : Nat) (j : Int), 0 ≤ j → j ≤ p.t.2.2.2 → p.t.2.2.2 - j < d → (∀ i, 0 ≤ i → i < j → fst1 p.t i → cnI (fst1 p.t) i ≠ k) → Z (l, M_C_unlike, R_C_unlike, (0, 0), false, zAi (unlikeF p.t k) (fun m => m = eC p rj s w g q q2 sm co)) 0 0 (eC p rj s w g q q2 sm co) 4 [(0, .ref 0), (1, .int (iI k)), (2, .int (iI (cnI (fst1 p.t) j))), (3, .int (iI j))] [] := by
  have h1 := h.1.1.1
  intro d
  induction d with
  | zero => intro j h2 h3 h4; omega
  | succ d ih =>
    intro j h2 h3 h4 h5
    have e := cnI_s (fst1 p.t) h2
    have eb := cnI_bd (fst1 p.t) h2
    refine Z_iload_n 4 rfl rfl rfl ?_
    refine Z_aload_n 5 rfl rfl rfl ?_
    refine Z_get 6 rfl f_C_14 rfl rfl ?_
    refine Z_callVip (M' := M_T_size) 7 [1, 2, 3, 4] rfl l_C_111 C_T_size (c_T_size l p.t) ⟨by decide, (zEL.c (Or.inl rfl) (zEL.c (Or.inl rfl) (zEL.c (Or.inl rfl) (zEL.c (Or.inl rfl) zEL.n))))⟩ (Or.inl ⟨_, _, _, _, rfl, rfl⟩) rfl rfl rfl (Nat.le_of_ble_eq_true rfl) ⟨rfl, rfl, Nat.le_of_ble_eq_true rfl, Nat.le_of_ble_eq_true rfl⟩ ⟨Nat.zero_le _, Nat.zero_le _⟩ ?_
    refine Z_icmp_ge 8 rfl (tgt := 45) rfl (by omega) (by omega) (fun c12 => ?_) (fun c12 => ?_)
    · refine Z_iload_n 23 rfl rfl rfl ?_
      refine Z_iconst 24 rfl ?_
      refine Z_icmp_ne 25 rfl (tgt := 54) rfl (by omega) (by omega) (fun c47 => ?_) (fun c47 => ?_)
      · refine Z_iconst 28 rfl ?_
        refine Z_iret 29 rfl rfl ⟨Nat.le_refl _, Nat.le_refl _⟩ ?_
        exact ⟨by
          have ej : j = p.t.2.2.2 := by omega
          rw [ej] at h5
          rw [unlikeF_eq (Or.inr ⟨h5, rfl⟩)]
          first | rw [if_pos (by omega), ← ej] | rw [if_neg (by omega)], rfl⟩
      · refine Z_iload_n 26 rfl rfl rfl ?_
        refine Z_goto 27 rfl (tgt := 55) rfl ?_
        refine Z_iret 29 rfl rfl ⟨Nat.le_refl _, Nat.le_refl _⟩ ?_
        exact ⟨by
          have ej : j = p.t.2.2.2 := by omega
          rw [ej] at h5
          rw [unlikeF_eq (Or.inr ⟨h5, rfl⟩)]
          first | rw [if_pos (by omega), ← ej] | rw [if_neg (by omega)], rfl⟩
    · refine Z_aload_n 9 rfl rfl rfl ?_
      refine Z_get 10 rfl f_C_14 rfl rfl ?_
      refine Z_iload_n 11 rfl rfl rfl ?_
      refine Z_callVbp (M' := M_T_isFirstOfItsLike) 12 [1, 2, 3, 4] rfl l_C_170 C_T_isFirstOfItsLike (c_T_isFirst l p.t h.1.1 j (by omega)) ⟨by decide, (zEL.c (Or.inl rfl) (zEL.c (Or.inl rfl) (zEL.c (Or.inl rfl) (zEL.c (Or.inl rfl) zEL.n))))⟩ (Or.inl ⟨_, _, _, _, rfl, rfl⟩) rfl rfl rfl (Nat.le_of_ble_eq_true rfl) ⟨rfl, rfl, Nat.le_of_ble_eq_true rfl, Nat.le_of_ble_eq_true rfl⟩ ⟨Nat.zero_le _, Nat.zero_le _⟩ ?_
      refine Z_ifb_ne 13 rfl (tgt := 29) rfl (fun c23 => ?_) (fun c23 => ?_)
      · refine Z_iload_n 15 rfl rfl rfl ?_
        refine Z_iload_n 16 rfl rfl rfl ?_
        refine Z_icmp_ne 17 rfl (tgt := 36) rfl (by omega) (by omega) (fun c31 => ?_) (fun c31 => ?_)
        · rw [bI_t c23] at e
          refine Z_iinc 20 rfl rfl (Nat.le_of_ble_eq_true rfl) (lv' := [(2, .int _), (0, .ref _), (1, .int _), (3, .int _)]) rfl ?_
          refine Z_iinc 21 rfl rfl (Nat.le_of_ble_eq_true rfl) (lv' := [(3, .int _), (2, .int _), (0, .ref _), (1, .int _)]) rfl ?_
          refine Z_goto 22 rfl (tgt := 4) rfl ?_
          refine Z_pick [0, 1, 2, 3] (lv' := [(0, .ref _), (1, .int _), (2, .int _), (3, .int _)]) rfl ?_
          have hz := ih (j + 1) (by omega) (by omega) (by omega) (fun i i1 i2 i3 => by
            by_cases ei : i = j
            · rw [ei] at i3 ⊢
              first | exact absurd i3 c23 | exact c31
            · exact h5 i i1 (by omega) i3)
          first | (rw [bI_f c23, Int.add_zero] at e; rw [e] at hz; exact hz) | (rw [e] at hz; exact hz)
        · refine Z_iload_n 18 rfl rfl rfl ?_
          refine Z_iret 19 rfl rfl ⟨Nat.le_refl _, Nat.le_refl _⟩ ?_
          exact ⟨by rw [unlikeF_eq (v := j) (Or.inl ⟨h2, by omega, c23, c31⟩)], rfl⟩
      · refine Z_goto 14 rfl (tgt := 39) rfl ?_
        refine Z_iinc 21 rfl rfl (Nat.le_of_ble_eq_true rfl) (lv' := [(3, .int _), (0, .ref _), (1, .int _), (2, .int _)]) rfl ?_
        refine Z_goto 22 rfl (tgt := 4) rfl ?_
        refine Z_pick [0, 1, 2, 3] (lv' := [(0, .ref _), (1, .int _), (2, .int _), (3, .int _)]) rfl ?_
        have hz := ih (j + 1) (by omega) (by omega) (by omega) (fun i i1 i2 i3 => by
          by_cases ei : i = j
          · rw [ei] at i3 ⊢
            first | exact absurd i3 c23 | exact c31
          · exact h5 i i1 (by omega) i3)
        first | (rw [bI_f c23, Int.add_zero] at e; rw [e] at hz; exact hz) | (rw [e] at hz; exact hz)
theorem c_C_unlike (h : PV p) (k : Int) (hk : inI k) : Con l M_C_unlike R_C_unlike 0 0 false [.ref 0, .int (iI k)] (eC p rj s w g q q2 sm co) (zAi (unlikeF p.t k) (fun m => m = eC p rj s w g q q2 sm co)) := by
  have h1 := h.1.1.1
  refine Con.of_Z (by decide) D_C_unlike (Nat.le_of_ble_eq_true rfl) ?_
  refine Z_iconst 0 rfl ?_
  refine Z_istore_n 1 rfl rfl (Nat.le_of_ble_eq_true rfl) (lv' := [(2, .int _), (0, .ref _), (1, .int _)]) rfl ?_
  refine Z_iconst 2 rfl ?_
  refine Z_istore_n 3 rfl rfl (Nat.le_of_ble_eq_true rfl) (lv' := [(3, .int _), (2, .int _), (0, .ref _), (1, .int _)]) rfl ?_
  refine Z_pick [0, 1, 2, 3] (lv' := [(0, .ref _), (1, .int _), (2, .int _), (3, .int _)]) rfl ?_
  exact lp_C_unlike l p rj s w g q q2 sm co h k hk 13 0 (by omega) (by omega) (by omega) (fun i i1 i2 => by omega)
theorem lp_C_steepestPiece (h : PV p) : ∀ (d : Nat) (j : Int), 0 ≤ j → j ≤ p.t.2.2.2 → p.t.2.2.2 - j < d → Z (l, M_C_steepestPiece, R_C_steepestPiece, (0, 0), false, zAi (spI p.t p.t.2.2.2) (fun m => m = eC p rj s w g q q2 sm co)) 0 0 (eC p rj s w g q q2 sm co) 5 [(0, .ref 0), (1, .int (iI (spI p.t j))), (2, .int (iI j))] [] := by
  have h1 := h.1.1.1
  intro d
  induction d with
  | zero => intro j h2 h3 h4; omega
  | succ d ih =>
    intro j h2 h3 h4
    have e := spI_s p.t h2
    have eb := spI_bd p.t h2
    refine Z_iload_n 4 rfl rfl rfl ?_
    refine Z_aload_n 5 rfl rfl rfl ?_
    refine Z_get 6 rfl f_C_14 rfl rfl ?_
    refine Z_callVip (M' := M_T_size) 7 [1, 2, 3, 4] rfl l_C_111 C_T_size (c_T_size l p.t) ⟨by decide, (zEL.c (Or.inl rfl) (zEL.c (Or.inl rfl) (zEL.c (Or.inl rfl) (zEL.c (Or.inl rfl) zEL.n))))⟩ (Or.inl ⟨_, _, _, _, rfl, rfl⟩) rfl rfl rfl (Nat.le_of_ble_eq_true rfl) ⟨rfl, rfl, Nat.le_of_ble_eq_true rfl, Nat.le_of_ble_eq_true rfl⟩ ⟨Nat.zero_le _, Nat.zero_le _⟩ ?_
    refine Z_icmp_ge 8 rfl (tgt := 40) rfl (by omega) (by omega) (fun c13 => ?_) (fun c13 => ?_)
    · refine Z_iload_n 21 rfl rfl rfl ?_
      refine Z_iret 22 rfl rfl ⟨Nat.le_refl _, Nat.le_refl _⟩ ?_
      exact ⟨by rw [show p.t.2.2.2 = j by omega], rfl⟩
    · refine Z_iload_n 9 rfl rfl rfl ?_
      refine Z_if_lt 10 rfl (tgt := 32) rfl (by omega) (fun c17 => ?_) (fun c17 => ?_)
      · refine Z_iload_n 17 rfl rfl rfl ?_
        refine Z_istore_n 18 rfl rfl (Nat.le_of_ble_eq_true rfl) (lv' := [(1, .int _), (0, .ref _), (2, .int _)]) rfl ?_
        refine Z_iinc 19 rfl rfl (Nat.le_of_ble_eq_true rfl) (lv' := [(2, .int _), (1, .int _), (0, .ref _)]) rfl ?_
        refine Z_goto 20 rfl (tgt := 5) rfl ?_
        refine Z_pick [0, 1, 2] (lv' := [(0, .ref _), (1, .int _), (2, .int _)]) rfl ?_
        have hz := ih (j + 1) (by omega) (by omega) (by omega)
        first | (rw [e, cif_t (Or.inl c17)] at hz; exact hz) | (rw [e, cif_t (Or.inr c29)] at hz; exact hz) | (rw [e, cif_f (fun z => z.elim c17 c29)] at hz; exact hz)
      · refine Z_aload_n 11 rfl rfl rfl ?_
        refine Z_get 12 rfl f_C_14 rfl rfl ?_
        refine Z_iload_n 13 rfl rfl rfl ?_
        refine Z_iload_n 14 rfl rfl rfl ?_
        refine Z_callVbp (M' := M_T_isSteeper) 15 [1, 2, 3, 4] rfl l_C_173 C_T_isSteeper (c_T_isSteeper l p.t h.1.1 j (spI p.t j) (by omega) (by omega)) ⟨by decide, (zEL.c (Or.inl rfl) (zEL.c (Or.inl rfl) (zEL.c (Or.inl rfl) (zEL.c (Or.inl rfl) zEL.n))))⟩ (Or.inl ⟨_, _, _, _, rfl, rfl⟩) rfl rfl rfl (Nat.le_of_ble_eq_true rfl) ⟨rfl, rfl, Nat.le_of_ble_eq_true rfl, Nat.le_of_ble_eq_true rfl⟩ ⟨Nat.zero_le _, Nat.zero_le _⟩ ?_
        refine Z_ifb_eq 16 rfl (tgt := 34) rfl (fun c29 => ?_) (fun c29 => ?_)
        · refine Z_iinc 19 rfl rfl (Nat.le_of_ble_eq_true rfl) (lv' := [(2, .int _), (0, .ref _), (1, .int _)]) rfl ?_
          refine Z_goto 20 rfl (tgt := 5) rfl ?_
          refine Z_pick [0, 1, 2] (lv' := [(0, .ref _), (1, .int _), (2, .int _)]) rfl ?_
          have hz := ih (j + 1) (by omega) (by omega) (by omega)
          first | (rw [e, cif_t (Or.inl c17)] at hz; exact hz) | (rw [e, cif_t (Or.inr c29)] at hz; exact hz) | (rw [e, cif_f (fun z => z.elim c17 c29)] at hz; exact hz)
        · refine Z_iload_n 17 rfl rfl rfl ?_
          refine Z_istore_n 18 rfl rfl (Nat.le_of_ble_eq_true rfl) (lv' := [(1, .int _), (0, .ref _), (2, .int _)]) rfl ?_
          refine Z_iinc 19 rfl rfl (Nat.le_of_ble_eq_true rfl) (lv' := [(2, .int _), (1, .int _), (0, .ref _)]) rfl ?_
          refine Z_goto 20 rfl (tgt := 5) rfl ?_
          refine Z_pick [0, 1, 2] (lv' := [(0, .ref _), (1, .int _), (2, .int _)]) rfl ?_
          have hz := ih (j + 1) (by omega) (by omega) (by omega)
          first | (rw [e, cif_t (Or.inl c17)] at hz; exact hz) | (rw [e, cif_t (Or.inr c29)] at hz; exact hz) | (rw [e, cif_f (fun z => z.elim c17 c29)] at hz; exact hz)
theorem c_C_steepestPiece (h : PV p) : Con l M_C_steepestPiece R_C_steepestPiece 0 0 false [.ref 0] (eC p rj s w g q q2 sm co) (zAi (spI p.t p.t.2.2.2) (fun m => m = eC p rj s w g q q2 sm co)) := by
  have h1 := h.1.1.1
  refine Con.of_Z (by decide) D_C_steepestPiece (Nat.le_of_ble_eq_true rfl) ?_
  refine Z_bipush 0 rfl rfl ?_
  refine Z_istore_n 1 rfl rfl (Nat.le_of_ble_eq_true rfl) (lv' := [(1, .int _), (0, .ref _)]) rfl ?_
  refine Z_iconst 2 rfl ?_
  refine Z_istore_n 3 rfl rfl (Nat.le_of_ble_eq_true rfl) (lv' := [(2, .int _), (1, .int _), (0, .ref _)]) rfl ?_
  refine Z_pick [0, 1, 2] (lv' := [(0, .ref _), (1, .int _), (2, .int _)]) rfl ?_
  exact lp_C_steepestPiece l p rj s w g q q2 sm co h 13 0 (by omega) (by omega) (by omega)
theorem c_C_at (h : PV p) (a sd what part : Int) (ha : inI a) (hs : inI sd) (hw : inI what) (hp : inI part) : Con l M_C_at R_C_at 0 0 false [.ref 0, .int (iI a), .int (iI sd), .int (iI what), .int (iI part)] (eC p rj s w g q q2 sm co) (zAl (atF p.t a sd what part) (fun m => ∃ s', m = eC p rj s' w g q q2 sm co)) := by
  refine Con.of_Z (by decide) D_C_at (Nat.le_of_ble_eq_true rfl) ?_
  refine Z_iload_n 0 rfl rfl rfl ?_
  refine Z_if_lt 1 rfl (tgt := 26) rfl (by omega) (fun c1 => ?_) (fun c1 => ?_)
  · refine Z_ldc2 13 rfl k_C_182 (c := -9223372036854775808) rfl ?_
    refine Z_lret 14 rfl rfl ⟨Nat.le_refl _, Nat.le_refl _⟩ ?_
    exact ⟨by unfold atF; (repeat (first | rw [cif_t (by first | assumption | omega)] | rw [cif_f (by first | assumption | omega)])); first | rfl | (rw [atV_f (by assumption)]; rfl), _, rfl⟩
  · refine Z_iload_n 2 rfl rfl rfl ?_
    refine Z_iconst 3 rfl ?_
    refine Z_icmp_gt 4 rfl (tgt := 26) rfl (by omega) (by omega) (fun c6 => ?_) (fun c6 => ?_)
    · refine Z_ldc2 13 rfl k_C_182 (c := -9223372036854775808) rfl ?_
      refine Z_lret 14 rfl rfl ⟨Nat.le_refl _, Nat.le_refl _⟩ ?_
      exact ⟨by unfold atF; (repeat (first | rw [cif_t (by first | assumption | omega)] | rw [cif_f (by first | assumption | omega)])); first | rfl | (rw [atV_f (by assumption)]; rfl), _, rfl⟩
    · refine Z_iload 5 rfl rfl ?_
      refine Z_callSbp (M' := M_C_isPart) 6 [] rfl l_C_176 C_C_isPart (c_C_isPart l part hp) ⟨List.nodup_nil, zEL.n⟩ rfl rfl rfl (Nat.le_of_ble_eq_true rfl) ⟨rfl, rfl, Nat.le_of_ble_eq_true rfl, Nat.le_of_ble_eq_true rfl⟩ ⟨Nat.zero_le _, Nat.zero_le _⟩ ?_
      refine Z_ifb_eq 7 rfl (tgt := 26) rfl (fun c14 => ?_) (fun c14 => ?_)
      · refine Z_ldc2 13 rfl k_C_182 (c := -9223372036854775808) rfl ?_
        refine Z_lret 14 rfl rfl ⟨Nat.le_refl _, Nat.le_refl _⟩ ?_
        exact ⟨by unfold atF; (repeat (first | rw [cif_t (by first | assumption | omega)] | rw [cif_f (by first | assumption | omega)])); first | rfl | (rw [atV_f (by assumption)]; rfl), _, rfl⟩
      · refine Z_aload_n 8 rfl rfl rfl ?_
        refine Z_iload_n 9 rfl rfl rfl ?_
        refine Z_iload_n 10 rfl rfl rfl ?_
        refine Z_callVb (M' := M_C_standAt) 11 isC rfl l_C_179 C_C_standAt (c_C_standAt l p rj s w g q q2 sm co h a sd ha hs) (emC ..) (Or.inl ⟨_, _, _, _, rfl, rfl⟩) rfl rfl rfl (Nat.le_of_ble_eq_true rfl) ⟨rfl, rfl, Nat.le_of_ble_eq_true rfl, Nat.le_of_ble_eq_true rfl⟩ ⟨Nat.zero_le _, Nat.zero_le _⟩ (fun out hq => ?_)
        obtain ⟨ss, rfl, hss⟩ := hq
        refine Z_mem (mgC ..) ?_
        refine Z_ifb_ne 12 rfl (tgt := 30) rfl (fun c23 => ?_) (fun c23 => ?_)
        · obtain ⟨kk, uu, hAt⟩ := c23
          obtain rfl := hss kk uu hAt
          have hI := At_in h.1 hAt
          have hbd := pl_bd h.1 ⟨hI.1.1, hI.1.2.1⟩ hI.2.1
          unfold SBd at hbd
          refine Z_iload_n 15 rfl rfl rfl ?_
          refine Z_if_ne 16 rfl (tgt := 44) rfl (by omega) (fun c31 => ?_) (fun c31 => ?_)
          · refine Z_iload_n 21 rfl rfl rfl ?_
            refine Z_iconst 22 rfl ?_
            refine Z_icmp_ne 23 rfl (tgt := 59) rfl (by omega) (by omega) (fun c46 => ?_) (fun c46 => ?_)
            · refine Z_aload_n 28 rfl rfl rfl ?_
              refine Z_get 29 rfl f_C_53 rfl rfl ?_
              refine Z_getN 30 rfl f_C_192 rfl rfl ?_
              refine Z_cl (show _ = whV what (pl p.t kk uu) by unfold whV; first | (rw [if_pos (by omega)]) | (rw [if_neg (by omega), if_pos (by omega)]) | (rw [if_neg (by omega), if_neg (by omega)])) ?_
              refine Z_lstore 31 rfl (Nat.le_of_ble_eq_true rfl) (lv' := [(5, .long _), (0, .ref _), (1, .int _), (2, .int _), (3, .int _), (4, .int _)]) rfl ?_
              refine Z_lload 32 rfl rfl ?_
              refine Z_aload_n 33 rfl rfl rfl ?_
              refine Z_get 34 rfl f_C_53 rfl rfl ?_
              refine Z_getN 35 rfl f_C_195 rfl rfl ?_
              refine Z_iload 36 rfl rfl ?_
              refine Z_callSlp (M' := M_C_lowest) 37 [] rfl l_C_198 C_C_lowest (c_C_lowest l (whV what (pl p.t kk uu)) (pl p.t kk uu).1 part (by unfold whV; (repeat' split) <;> omega) (by omega) hp) ⟨List.nodup_nil, zEL.n⟩ rfl rfl rfl (Nat.le_of_ble_eq_true rfl) ⟨rfl, rfl, Nat.le_of_ble_eq_true rfl, Nat.le_of_ble_eq_true rfl⟩ ⟨Nat.zero_le _, Nat.zero_le _⟩ ?_
              refine Z_lret 38 rfl rfl ⟨Nat.le_refl _, Nat.le_refl _⟩ ?_
              exact ⟨by unfold atF; (repeat (first | rw [cif_t (by first | assumption | omega)] | rw [cif_f (by first | assumption | omega)])); rw [atV_t h.1 hAt], _, rfl⟩
            · refine Z_aload_n 24 rfl rfl rfl ?_
              refine Z_get 25 rfl f_C_53 rfl rfl ?_
              refine Z_getN 26 rfl f_C_188 rfl rfl ?_
              refine Z_goto 27 rfl (tgt := 66) rfl ?_
              refine Z_cl (show _ = whV what (pl p.t kk uu) by unfold whV; first | (rw [if_pos (by omega)]) | (rw [if_neg (by omega), if_pos (by omega)]) | (rw [if_neg (by omega), if_neg (by omega)])) ?_
              refine Z_lstore 31 rfl (Nat.le_of_ble_eq_true rfl) (lv' := [(5, .long _), (0, .ref _), (1, .int _), (2, .int _), (3, .int _), (4, .int _)]) rfl ?_
              refine Z_lload 32 rfl rfl ?_
              refine Z_aload_n 33 rfl rfl rfl ?_
              refine Z_get 34 rfl f_C_53 rfl rfl ?_
              refine Z_getN 35 rfl f_C_195 rfl rfl ?_
              refine Z_iload 36 rfl rfl ?_
              refine Z_callSlp (M' := M_C_lowest) 37 [] rfl l_C_198 C_C_lowest (c_C_lowest l (whV what (pl p.t kk uu)) (pl p.t kk uu).1 part (by unfold whV; (repeat' split) <;> omega) (by omega) hp) ⟨List.nodup_nil, zEL.n⟩ rfl rfl rfl (Nat.le_of_ble_eq_true rfl) ⟨rfl, rfl, Nat.le_of_ble_eq_true rfl, Nat.le_of_ble_eq_true rfl⟩ ⟨Nat.zero_le _, Nat.zero_le _⟩ ?_
              refine Z_lret 38 rfl rfl ⟨Nat.le_refl _, Nat.le_refl _⟩ ?_
              exact ⟨by unfold atF; (repeat (first | rw [cif_t (by first | assumption | omega)] | rw [cif_f (by first | assumption | omega)])); rw [atV_t h.1 hAt], _, rfl⟩
          · refine Z_aload_n 17 rfl rfl rfl ?_
            refine Z_get 18 rfl f_C_53 rfl rfl ?_
            refine Z_callVlp (M' := M_S_lift) 19 [20] rfl l_C_184 C_S_lift (c_S_lift l (pl p.t kk uu)) ⟨by decide, (zEL.c (Or.inl rfl) zEL.n)⟩ (Or.inl ⟨_, _, _, _, rfl, rfl⟩) rfl rfl rfl (Nat.le_of_ble_eq_true rfl) ⟨rfl, rfl, Nat.le_of_ble_eq_true rfl, Nat.le_of_ble_eq_true rfl⟩ ⟨Nat.zero_le _, Nat.zero_le _⟩ ?_
            refine Z_goto 20 rfl (tgt := 66) rfl ?_
            refine Z_cl (show _ = whV what (pl p.t kk uu) by unfold whV; first | (rw [if_pos (by omega)]) | (rw [if_neg (by omega), if_pos (by omega)]) | (rw [if_neg (by omega), if_neg (by omega)])) ?_
            refine Z_lstore 31 rfl (Nat.le_of_ble_eq_true rfl) (lv' := [(5, .long _), (0, .ref _), (1, .int _), (2, .int _), (3, .int _), (4, .int _)]) rfl ?_
            refine Z_lload 32 rfl rfl ?_
            refine Z_aload_n 33 rfl rfl rfl ?_
            refine Z_get 34 rfl f_C_53 rfl rfl ?_
            refine Z_getN 35 rfl f_C_195 rfl rfl ?_
            refine Z_iload 36 rfl rfl ?_
            refine Z_callSlp (M' := M_C_lowest) 37 [] rfl l_C_198 C_C_lowest (c_C_lowest l (whV what (pl p.t kk uu)) (pl p.t kk uu).1 part (by unfold whV; (repeat' split) <;> omega) (by omega) hp) ⟨List.nodup_nil, zEL.n⟩ rfl rfl rfl (Nat.le_of_ble_eq_true rfl) ⟨rfl, rfl, Nat.le_of_ble_eq_true rfl, Nat.le_of_ble_eq_true rfl⟩ ⟨Nat.zero_le _, Nat.zero_le _⟩ ?_
            refine Z_lret 38 rfl rfl ⟨Nat.le_refl _, Nat.le_refl _⟩ ?_
            exact ⟨by unfold atF; (repeat (first | rw [cif_t (by first | assumption | omega)] | rw [cif_f (by first | assumption | omega)])); rw [atV_t h.1 hAt], _, rfl⟩
        · refine Z_ldc2 13 rfl k_C_182 (c := -9223372036854775808) rfl ?_
          refine Z_lret 14 rfl rfl ⟨Nat.le_refl _, Nat.le_refl _⟩ ?_
          exact ⟨by unfold atF; (repeat (first | rw [cif_t (by first | assumption | omega)] | rw [cif_f (by first | assumption | omega)])); first | rfl | (rw [atV_f (by assumption)]; rfl), _, rfl⟩
theorem c_C_curve (h : PV p) (a sd part : Int) (ha : inI a) (hs : inI sd) (hp : inI part) : Con l M_C_curve R_C_curve 0 0 false [.ref 0, .int (iI a), .int (iI sd), .int (iI part)] (eC p rj s w g q q2 sm co) (zAl (curveF p.t p.s a sd part) (fun m => ∃ s', m = eC p rj s' w g q q2 sm co)) := by
  refine Con.of_Z (by decide) D_C_curve (Nat.le_of_ble_eq_true rfl) ?_
  refine Z_iload_n 0 rfl rfl rfl ?_
  refine Z_callSbp (M' := M_C_isPart) 1 [] rfl l_C_176 C_C_isPart (c_C_isPart l part hp) ⟨List.nodup_nil, zEL.n⟩ rfl rfl rfl (Nat.le_of_ble_eq_true rfl) ⟨rfl, rfl, Nat.le_of_ble_eq_true rfl, Nat.le_of_ble_eq_true rfl⟩ ⟨Nat.zero_le _, Nat.zero_le _⟩ ?_
  refine Z_ifb_eq 2 rfl (tgt := 16) rfl (fun c4 => ?_) (fun c4 => ?_)
  · refine Z_ldc2 8 rfl k_C_182 (c := -9223372036854775808) rfl ?_
    refine Z_lret 9 rfl rfl ⟨Nat.le_refl _, Nat.le_refl _⟩ ?_
    exact ⟨by unfold curveF; (repeat (first | rw [cif_t (by first | assumption | omega)] | rw [cif_f (by first | assumption | omega)])); first | rfl | (rw [atV_f (by assumption)]; rfl), _, rfl⟩
  · refine Z_aload_n 3 rfl rfl rfl ?_
    refine Z_iload_n 4 rfl rfl rfl ?_
    refine Z_iload_n 5 rfl rfl rfl ?_
    refine Z_callVb (M' := M_C_standAt) 6 isC rfl l_C_179 C_C_standAt (c_C_standAt l p rj s w g q q2 sm co h a sd ha hs) (emC ..) (Or.inl ⟨_, _, _, _, rfl, rfl⟩) rfl rfl rfl (Nat.le_of_ble_eq_true rfl) ⟨rfl, rfl, Nat.le_of_ble_eq_true rfl, Nat.le_of_ble_eq_true rfl⟩ ⟨Nat.zero_le _, Nat.zero_le _⟩ (fun out hq => ?_)
    obtain ⟨ss, rfl, hss⟩ := hq
    refine Z_mem (mgC ..) ?_
    refine Z_ifb_ne 7 rfl (tgt := 20) rfl (fun c13 => ?_) (fun c13 => ?_)
    · obtain ⟨kk, uu, hAt⟩ := c13
      obtain rfl := hss kk uu hAt
      have hI := At_in h.1 hAt
      have hbd := pl_bd h.1 ⟨hI.1.1, hI.1.2.1⟩ hI.2.1
      have hb2 := sb_bd h.2.1 hbd
      unfold SBd at hbd
      refine Z_aload_n 10 rfl rfl rfl ?_
      refine Z_callVlp (M' := M_C_curveHere) 11 isC rfl l_C_216 C_C_curveHere (c_C_curveHere l p rj (pl p.t kk uu) w g q q2 sm co h) (emC ..) (Or.inl ⟨_, _, _, _, rfl, rfl⟩) rfl rfl rfl (Nat.le_of_ble_eq_true rfl) ⟨rfl, rfl, Nat.le_of_ble_eq_true rfl, Nat.le_of_ble_eq_true rfl⟩ ⟨Nat.zero_le _, Nat.zero_le _⟩ ?_
      refine Z_aload_n 12 rfl rfl rfl ?_
      refine Z_get 13 rfl f_C_53 rfl rfl ?_
      refine Z_getN 14 rfl f_C_195 rfl rfl ?_
      refine Z_iload_n 15 rfl rfl rfl ?_
      refine Z_callSlp (M' := M_C_lowest) 16 [] rfl l_C_198 C_C_lowest (c_C_lowest l (cur p.s (pl p.t kk uu)) (pl p.t kk uu).1 part (by omega) (by omega) hp) ⟨List.nodup_nil, zEL.n⟩ rfl rfl rfl (Nat.le_of_ble_eq_true rfl) ⟨rfl, rfl, Nat.le_of_ble_eq_true rfl, Nat.le_of_ble_eq_true rfl⟩ ⟨Nat.zero_le _, Nat.zero_le _⟩ ?_
      refine Z_lret 17 rfl rfl ⟨Nat.le_refl _, Nat.le_refl _⟩ ?_
      exact ⟨by unfold curveF; (repeat (first | rw [cif_t (by first | assumption | omega)] | rw [cif_f (by first | assumption | omega)])); rw [atV_t h.1 hAt], _, rfl⟩
    · refine Z_ldc2 8 rfl k_C_182 (c := -9223372036854775808) rfl ?_
      refine Z_lret 9 rfl rfl ⟨Nat.le_refl _, Nat.le_refl _⟩ ?_
      exact ⟨by unfold curveF; (repeat (first | rw [cif_t (by first | assumption | omega)] | rw [cif_f (by first | assumption | omega)])); first | rfl | (rw [atV_f (by assumption)]; rfl), _, rfl⟩
theorem c_C_force (h : PV p) (a sd part : Int) (ha : inI a) (hs : inI sd) (hp : inI part) : Con l M_C_force R_C_force 0 0 false [.ref 0, .int (iI a), .int (iI sd), .int (iI part)] (eC p rj s w g q q2 sm co) (zAl (forceF p.t p.s a sd part) (fun m => ∃ s', m = eC p rj s' w g q q2 sm co)) := by
  refine Con.of_Z (by decide) D_C_force (Nat.le_of_ble_eq_true rfl) ?_
  refine Z_iload_n 0 rfl rfl rfl ?_
  refine Z_callSbp (M' := M_C_isPart) 1 [] rfl l_C_176 C_C_isPart (c_C_isPart l part hp) ⟨List.nodup_nil, zEL.n⟩ rfl rfl rfl (Nat.le_of_ble_eq_true rfl) ⟨rfl, rfl, Nat.le_of_ble_eq_true rfl, Nat.le_of_ble_eq_true rfl⟩ ⟨Nat.zero_le _, Nat.zero_le _⟩ ?_
  refine Z_ifb_eq 2 rfl (tgt := 16) rfl (fun c4 => ?_) (fun c4 => ?_)
  · refine Z_ldc2 8 rfl k_C_182 (c := -9223372036854775808) rfl ?_
    refine Z_lret 9 rfl rfl ⟨Nat.le_refl _, Nat.le_refl _⟩ ?_
    exact ⟨by unfold forceF; (repeat (first | rw [cif_t (by first | assumption | omega)] | rw [cif_f (by first | assumption | omega)])); first | rfl | (rw [atV_f (by assumption)]; rfl), _, rfl⟩
  · refine Z_aload_n 3 rfl rfl rfl ?_
    refine Z_iload_n 4 rfl rfl rfl ?_
    refine Z_iload_n 5 rfl rfl rfl ?_
    refine Z_callVb (M' := M_C_standAt) 6 isC rfl l_C_179 C_C_standAt (c_C_standAt l p rj s w g q q2 sm co h a sd ha hs) (emC ..) (Or.inl ⟨_, _, _, _, rfl, rfl⟩) rfl rfl rfl (Nat.le_of_ble_eq_true rfl) ⟨rfl, rfl, Nat.le_of_ble_eq_true rfl, Nat.le_of_ble_eq_true rfl⟩ ⟨Nat.zero_le _, Nat.zero_le _⟩ (fun out hq => ?_)
    obtain ⟨ss, rfl, hss⟩ := hq
    refine Z_mem (mgC ..) ?_
    refine Z_ifb_ne 7 rfl (tgt := 20) rfl (fun c13 => ?_) (fun c13 => ?_)
    · obtain ⟨kk, uu, hAt⟩ := c13
      obtain rfl := hss kk uu hAt
      have hI := At_in h.1 hAt
      have hbd := pl_bd h.1 ⟨hI.1.1, hI.1.2.1⟩ hI.2.1
      have hb2 := frc_bd h.2.1 hbd
      unfold SBd at hbd
      refine Z_aload_n 10 rfl rfl rfl ?_
      refine Z_callVlp (M' := M_C_forceHere) 11 isC rfl l_C_224 C_C_forceHere (c_C_forceHere l p rj (pl p.t kk uu) w g q q2 sm co h) (emC ..) (Or.inl ⟨_, _, _, _, rfl, rfl⟩) rfl rfl rfl (Nat.le_of_ble_eq_true rfl) ⟨rfl, rfl, Nat.le_of_ble_eq_true rfl, Nat.le_of_ble_eq_true rfl⟩ ⟨Nat.zero_le _, Nat.zero_le _⟩ ?_
      refine Z_aload_n 12 rfl rfl rfl ?_
      refine Z_get 13 rfl f_C_53 rfl rfl ?_
      refine Z_getN 14 rfl f_C_195 rfl rfl ?_
      refine Z_iload_n 15 rfl rfl rfl ?_
      refine Z_callSlp (M' := M_C_lowest) 16 [] rfl l_C_198 C_C_lowest (c_C_lowest l (frc p.s (pl p.t kk uu)) (pl p.t kk uu).1 part (by omega) (by omega) hp) ⟨List.nodup_nil, zEL.n⟩ rfl rfl rfl (Nat.le_of_ble_eq_true rfl) ⟨rfl, rfl, Nat.le_of_ble_eq_true rfl, Nat.le_of_ble_eq_true rfl⟩ ⟨Nat.zero_le _, Nat.zero_le _⟩ ?_
      refine Z_lret 17 rfl rfl ⟨Nat.le_refl _, Nat.le_refl _⟩ ?_
      exact ⟨by unfold forceF; (repeat (first | rw [cif_t (by first | assumption | omega)] | rw [cif_f (by first | assumption | omega)])); rw [atV_t h.1 hAt], _, rfl⟩
    · refine Z_ldc2 8 rfl k_C_182 (c := -9223372036854775808) rfl ?_
      refine Z_lret 9 rfl rfl ⟨Nat.le_refl _, Nat.le_refl _⟩ ?_
      exact ⟨by unfold forceF; (repeat (first | rw [cif_t (by first | assumption | omega)] | rw [cif_f (by first | assumption | omega)])); first | rfl | (rw [atV_f (by assumption)]; rfl), _, rfl⟩
theorem c_C_pressure (h : PV p) (a sd part : Int) (ha : inI a) (hs : inI sd) (hp : inI part) : Con l M_C_pressure R_C_pressure 0 0 false [.ref 0, .int (iI a), .int (iI sd), .int (iI part)] (eC p rj s w g q q2 sm co) (zAl (pressF p.t p.s a sd part) (fun m => ∃ s', m = eC p rj s' w g q q2 sm co)) := by
  refine Con.of_Z (by decide) D_C_pressure (Nat.le_of_ble_eq_true rfl) ?_
  refine Z_iload_n 0 rfl rfl rfl ?_
  refine Z_callSbp (M' := M_C_isPart) 1 [] rfl l_C_176 C_C_isPart (c_C_isPart l part hp) ⟨List.nodup_nil, zEL.n⟩ rfl rfl rfl (Nat.le_of_ble_eq_true rfl) ⟨rfl, rfl, Nat.le_of_ble_eq_true rfl, Nat.le_of_ble_eq_true rfl⟩ ⟨Nat.zero_le _, Nat.zero_le _⟩ ?_
  refine Z_ifb_eq 2 rfl (tgt := 16) rfl (fun c4 => ?_) (fun c4 => ?_)
  · refine Z_ldc2 8 rfl k_C_182 (c := -9223372036854775808) rfl ?_
    refine Z_lret 9 rfl rfl ⟨Nat.le_refl _, Nat.le_refl _⟩ ?_
    exact ⟨by unfold pressF; (repeat (first | rw [cif_t (by first | assumption | omega)] | rw [cif_f (by first | assumption | omega)])); first | rfl | (rw [atV_f (by assumption)]; rfl), _, rfl⟩
  · refine Z_aload_n 3 rfl rfl rfl ?_
    refine Z_iload_n 4 rfl rfl rfl ?_
    refine Z_iload_n 5 rfl rfl rfl ?_
    refine Z_callVb (M' := M_C_standAt) 6 isC rfl l_C_179 C_C_standAt (c_C_standAt l p rj s w g q q2 sm co h a sd ha hs) (emC ..) (Or.inl ⟨_, _, _, _, rfl, rfl⟩) rfl rfl rfl (Nat.le_of_ble_eq_true rfl) ⟨rfl, rfl, Nat.le_of_ble_eq_true rfl, Nat.le_of_ble_eq_true rfl⟩ ⟨Nat.zero_le _, Nat.zero_le _⟩ (fun out hq => ?_)
    obtain ⟨ss, rfl, hss⟩ := hq
    refine Z_mem (mgC ..) ?_
    refine Z_ifb_ne 7 rfl (tgt := 20) rfl (fun c13 => ?_) (fun c13 => ?_)
    · obtain ⟨kk, uu, hAt⟩ := c13
      obtain rfl := hss kk uu hAt
      have hI := At_in h.1 hAt
      have hbd := pl_bd h.1 ⟨hI.1.1, hI.1.2.1⟩ hI.2.1
      have hb2 := sb_bd h.2.1 hbd
      unfold SBd at hbd
      refine Z_aload_n 10 rfl rfl rfl ?_
      refine Z_callVlp (M' := M_C_reachHere) 11 isC rfl l_C_219 C_C_reachHere (c_C_reachHere l p rj (pl p.t kk uu) w g q q2 sm co h) (emC ..) (Or.inl ⟨_, _, _, _, rfl, rfl⟩) rfl rfl rfl (Nat.le_of_ble_eq_true rfl) ⟨rfl, rfl, Nat.le_of_ble_eq_true rfl, Nat.le_of_ble_eq_true rfl⟩ ⟨Nat.zero_le _, Nat.zero_le _⟩ ?_
      refine Z_lstore 12 rfl (Nat.le_of_ble_eq_true rfl) (lv' := [(4, .long _), (0, .ref _), (1, .int _), (2, .int _), (3, .int _)]) rfl ?_
      refine Z_lload 13 rfl rfl ?_
      refine Z_lconst 14 rfl ?_
      refine Z_lc_le 15 rfl rfl (tgt := 53) rfl (by omega) (by omega) (fun c29 => ?_) (fun c29 => ?_)
      · refine Z_ldc2 26 rfl k_C_182 (c := -9223372036854775808) rfl ?_
        refine Z_lret 27 rfl rfl ⟨Nat.le_refl _, Nat.le_refl _⟩ ?_
        exact ⟨by unfold pressF; (repeat (first | rw [cif_t (by first | assumption | omega)] | rw [cif_f (by first | assumption | omega)])); rw [atV_t h.1 hAt]; first | rw [cif_t (by omega)] | (rw [cif_f (by omega)]; rfl), _, rfl⟩
      · refine Z_ldc2 17 rfl k_C_222 (c := 57) rfl ?_
        refine Z_aload_n 18 rfl rfl rfl ?_
        refine Z_get 19 rfl f_C_53 rfl rfl ?_
        refine Z_getN 20 rfl f_C_188 rfl rfl ?_
        refine Z_lmul 21 rfl ?_
        refine Z_lload 22 rfl rfl ?_
        refine Z_iload_n 23 rfl rfl rfl ?_
        refine Z_callSlp (M' := M_C_lowest) 24 [] rfl l_C_198 C_C_lowest (c_C_lowest l (57 * (pl p.t kk uu).2.2.1) (rch p.s (pl p.t kk uu)) part (by omega) (by omega) hp) ⟨List.nodup_nil, zEL.n⟩ rfl rfl rfl (Nat.le_of_ble_eq_true rfl) ⟨rfl, rfl, Nat.le_of_ble_eq_true rfl, Nat.le_of_ble_eq_true rfl⟩ ⟨Nat.zero_le _, Nat.zero_le _⟩ ?_
        refine Z_goto 25 rfl (tgt := 56) rfl ?_
        refine Z_lret 27 rfl rfl ⟨Nat.le_refl _, Nat.le_refl _⟩ ?_
        exact ⟨by unfold pressF; (repeat (first | rw [cif_t (by first | assumption | omega)] | rw [cif_f (by first | assumption | omega)])); rw [atV_t h.1 hAt]; first | rw [cif_t (by omega)] | (rw [cif_f (by omega)]; rfl), _, rfl⟩
    · refine Z_ldc2 8 rfl k_C_182 (c := -9223372036854775808) rfl ?_
      refine Z_lret 9 rfl rfl ⟨Nat.le_refl _, Nat.le_refl _⟩ ?_
      exact ⟨by unfold pressF; (repeat (first | rw [cif_t (by first | assumption | omega)] | rw [cif_f (by first | assumption | omega)])); first | rfl | (rw [atV_f (by assumption)]; rfl), _, rfl⟩
theorem c_C_sample (h : PV p) (a : Int) (ha : inI a) : Con l M_C_sample R_C_sample 0 0 false [.ref 0, .int (iI a)] (eC p rj s w g q q2 sm co) (zAl (sampleF p.t p.s a) (fun m => ∃ s', m = eC p rj s' w g q q2 sm co)) := by
  have h1 := h.1.1.1
  have h2 := tot_bd h.1.1
  have hx : (0 < p.t.2.2.2 ∧ 0 ≤ a ∧ a ≤ tot p.t) → ∃ k u, At p.t a (if a = 0 then 1 else 0) k u := fun hz => At_ex h.1 hz.1 hz.2.1 hz.2.2
  refine Con.of_Z (by decide) D_C_sample (Nat.le_of_ble_eq_true rfl) ?_
  refine Z_aload_n 0 rfl rfl rfl ?_
  refine Z_get 1 rfl f_C_14 rfl rfl ?_
  refine Z_callVip (M' := M_T_size) 2 [1, 2, 3, 4] rfl l_C_111 C_T_size (c_T_size l p.t) ⟨by decide, (zEL.c (Or.inl rfl) (zEL.c (Or.inl rfl) (zEL.c (Or.inl rfl) (zEL.c (Or.inl rfl) zEL.n))))⟩ (Or.inl ⟨_, _, _, _, rfl, rfl⟩) rfl rfl rfl (Nat.le_of_ble_eq_true rfl) ⟨rfl, rfl, Nat.le_of_ble_eq_true rfl, Nat.le_of_ble_eq_true rfl⟩ ⟨Nat.zero_le _, Nat.zero_le _⟩ ?_
  refine Z_if_eq 3 rfl (tgt := 25) rfl (by omega) (fun c7 => ?_) (fun c7 => ?_)
  · refine Z_ldc2 11 rfl k_C_182 (c := -9223372036854775808) rfl ?_
    refine Z_lret 12 rfl rfl ⟨Nat.le_refl _, Nat.le_refl _⟩ ?_
    exact ⟨by unfold sampleF; (repeat (first | rw [cif_t (by first | assumption | omega)] | rw [cif_f (by first | assumption | omega)])); rfl, _, rfl⟩
  · refine Z_iload_n 4 rfl rfl rfl ?_
    refine Z_if_lt 5 rfl (tgt := 25) rfl (by omega) (fun c11 => ?_) (fun c11 => ?_)
    · refine Z_ldc2 11 rfl k_C_182 (c := -9223372036854775808) rfl ?_
      refine Z_lret 12 rfl rfl ⟨Nat.le_refl _, Nat.le_refl _⟩ ?_
      exact ⟨by unfold sampleF; (repeat (first | rw [cif_t (by first | assumption | omega)] | rw [cif_f (by first | assumption | omega)])); rfl, _, rfl⟩
    · refine Z_iload_n 6 rfl rfl rfl ?_
      refine Z_aload_n 7 rfl rfl rfl ?_
      refine Z_get 8 rfl f_C_14 rfl rfl ?_
      refine Z_callVip (M' := M_T_total) 9 [1, 2, 3, 4] rfl l_C_103 C_T_total (c_T_total l p.t h.1.1) ⟨by decide, (zEL.c (Or.inl rfl) (zEL.c (Or.inl rfl) (zEL.c (Or.inl rfl) (zEL.c (Or.inl rfl) zEL.n))))⟩ (Or.inl ⟨_, _, _, _, rfl, rfl⟩) rfl rfl rfl (Nat.le_of_ble_eq_true rfl) ⟨rfl, rfl, Nat.le_of_ble_eq_true rfl, Nat.le_of_ble_eq_true rfl⟩ ⟨Nat.zero_le _, Nat.zero_le _⟩ ?_
      refine Z_icmp_le 10 rfl (tgt := 29) rfl (by omega) (by omega) (fun c22 => ?_) (fun c22 => ?_)
      · refine Z_aload_n 13 rfl rfl rfl ?_
        refine Z_iload_n 14 rfl rfl rfl ?_
        refine Z_iload_n 15 rfl rfl rfl ?_
        refine Z_if_ne 16 rfl (tgt := 39) rfl (by omega) (fun c32 => ?_) (fun c32 => ?_)
        · refine Z_iconst 19 rfl ?_
          refine Z_ci (show _ = (if a = 0 then (1 : Int) else 0) by first | rw [if_pos (by omega)] | rw [if_neg (by omega)]) ?_
          refine Z_callVb (M' := M_C_standAt) 20 isC rfl l_C_179 C_C_standAt (c_C_standAt l p rj s w g q q2 sm co h a (if a = 0 then 1 else 0) ha (by split <;> omega)) (emC ..) (Or.inl ⟨_, _, _, _, rfl, rfl⟩) rfl rfl rfl (Nat.le_of_ble_eq_true rfl) ⟨rfl, rfl, Nat.le_of_ble_eq_true rfl, Nat.le_of_ble_eq_true rfl⟩ ⟨Nat.zero_le _, Nat.zero_le _⟩ (fun out hq => ?_)
          obtain ⟨ss, rfl, hss⟩ := hq
          refine Z_mem (mgC ..) ?_
          refine Z_pop 21 rfl rfl ?_
          obtain ⟨kk, uu, hAt⟩ := hx (by omega)
          obtain rfl := hss kk uu hAt
          have hI := At_in h.1 hAt
          have hbd := pl_bd h.1 ⟨hI.1.1, hI.1.2.1⟩ hI.2.1
          refine Z_aload_n 22 rfl rfl rfl ?_
          refine Z_callVlp (M' := M_C_sampleHere) 23 isC rfl l_C_293 C_C_sampleHere (c_C_sampleHere l p rj (pl p.t kk uu) w g q q2 sm co h hbd) (emC ..) (Or.inl ⟨_, _, _, _, rfl, rfl⟩) rfl rfl rfl (Nat.le_of_ble_eq_true rfl) ⟨rfl, rfl, Nat.le_of_ble_eq_true rfl, Nat.le_of_ble_eq_true rfl⟩ ⟨Nat.zero_le _, Nat.zero_le _⟩ ?_
          refine Z_lret 24 rfl rfl ⟨Nat.le_refl _, Nat.le_refl _⟩ ?_
          exact ⟨by unfold sampleF; (repeat (first | rw [cif_t (by first | assumption | omega)] | rw [cif_f (by first | assumption | omega)])); rw [atV_t h.1 hAt], _, rfl⟩
        · refine Z_iconst 17 rfl ?_
          refine Z_goto 18 rfl (tgt := 40) rfl ?_
          refine Z_ci (show _ = (if a = 0 then (1 : Int) else 0) by first | rw [if_pos (by omega)] | rw [if_neg (by omega)]) ?_
          refine Z_callVb (M' := M_C_standAt) 20 isC rfl l_C_179 C_C_standAt (c_C_standAt l p rj s w g q q2 sm co h a (if a = 0 then 1 else 0) ha (by split <;> omega)) (emC ..) (Or.inl ⟨_, _, _, _, rfl, rfl⟩) rfl rfl rfl (Nat.le_of_ble_eq_true rfl) ⟨rfl, rfl, Nat.le_of_ble_eq_true rfl, Nat.le_of_ble_eq_true rfl⟩ ⟨Nat.zero_le _, Nat.zero_le _⟩ (fun out hq => ?_)
          obtain ⟨ss, rfl, hss⟩ := hq
          refine Z_mem (mgC ..) ?_
          refine Z_pop 21 rfl rfl ?_
          obtain ⟨kk, uu, hAt⟩ := hx (by omega)
          obtain rfl := hss kk uu hAt
          have hI := At_in h.1 hAt
          have hbd := pl_bd h.1 ⟨hI.1.1, hI.1.2.1⟩ hI.2.1
          refine Z_aload_n 22 rfl rfl rfl ?_
          refine Z_callVlp (M' := M_C_sampleHere) 23 isC rfl l_C_293 C_C_sampleHere (c_C_sampleHere l p rj (pl p.t kk uu) w g q q2 sm co h hbd) (emC ..) (Or.inl ⟨_, _, _, _, rfl, rfl⟩) rfl rfl rfl (Nat.le_of_ble_eq_true rfl) ⟨rfl, rfl, Nat.le_of_ble_eq_true rfl, Nat.le_of_ble_eq_true rfl⟩ ⟨Nat.zero_le _, Nat.zero_le _⟩ ?_
          refine Z_lret 24 rfl rfl ⟨Nat.le_refl _, Nat.le_refl _⟩ ?_
          exact ⟨by unfold sampleF; (repeat (first | rw [cif_t (by first | assumption | omega)] | rw [cif_f (by first | assumption | omega)])); rw [atV_t h.1 hAt], _, rfl⟩
      · refine Z_ldc2 11 rfl k_C_182 (c := -9223372036854775808) rfl ?_
        refine Z_lret 12 rfl rfl ⟨Nat.le_refl _, Nat.le_refl _⟩ ?_
        exact ⟨by unfold sampleF; (repeat (first | rw [cif_t (by first | assumption | omega)] | rw [cif_f (by first | assumption | omega)])); rfl, _, rfl⟩
end C3
