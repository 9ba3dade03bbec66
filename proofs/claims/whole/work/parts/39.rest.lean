/-! CamPieces: the greatest difference, the widest step; lists -/
theorem gap_c {f f' : Int → Int} {a st T : Int} (ha : 0 ≤ a ∧ a ≤ T) (hs : 1 ≤ st ∧ st ≤ 60) (h : ∀ x, 0 ≤ x → x ≤ T → f x = f' x) : gap f a st T = gap f' a st T := by
  obtain ⟨b1, b2, b3⟩ := frm_bd ha hs
  unfold gap
  rw [h _ b1.1 (by omega), h _ b3.1 b3.2, h a ha.1 ha.2]
def IsErr (f : Int → Int) (T st part v : Int) : Prop := ∃ A B, 0 < B ∧ 0 ≤ A ∧ ((A = 0 ∧ B = 1) ∨ ∃ a, 0 ≤ a ∧ a ≤ T ∧ A = gap f a st T ∧ B = spa a st T) ∧ (∀ a, 0 ≤ a → a ≤ T → gap f a st T * B ≤ A * spa a st T) ∧ v = lo A B part
theorem IsErr_un {f : Int → Int} {T st part v v' : Int} (h : IsErr f T st part v) (h' : IsErr f T st part v') : v = v' := by
  obtain ⟨A, B, h1, h2, h3, h4, h5⟩ := h
  obtain ⟨A', B', g1, g2, g3, g4, g5⟩ := h'
  rw [h5, g5]
  refine lo_eq A B A' B' part h1 g1 ?_
  have x1 : A * B' ≤ A' * B := by
    rcases h3 with ⟨e1, e2⟩ | ⟨a, a1, a2, e1, e2⟩
    · rw [e1, Int.zero_mul]
      exact Int.mul_nonneg g2 (by omega)
    · rw [e1, e2]
      exact g4 a a1 a2
  have x2 : A' * B ≤ A * B' := by
    rcases g3 with ⟨e1, e2⟩ | ⟨a, a1, a2, e1, e2⟩
    · rw [e1, Int.zero_mul]
      exact Int.mul_nonneg h2 (by omega)
    · rw [e1, e2]
      exact h4 a a1 a2
  omega
theorem IsErr_c {f f' : Int → Int} {T st part v : Int} (hs : 1 ≤ st ∧ st ≤ 60) (h : ∀ x, 0 ≤ x → x ≤ T → f x = f' x) (hz : IsErr f T st part v) : IsErr f' T st part v := by
  obtain ⟨A, B, h1, h2, h3, h4, h5⟩ := hz
  refine ⟨A, B, h1, h2, h3.imp id ?_, fun a a1 a2 => ?_, h5⟩
  · rintro ⟨a, a1, a2, e1, e2⟩
    exact ⟨a, a1, a2, by rw [e1]; exact gap_c ⟨a1, a2⟩ hs h, e2⟩
  · rw [← gap_c ⟨a1, a2⟩ hs h]
    exact h4 a a1 a2
noncomputable def errF (t : TT) (S : Int → Int) (st part : Int) : Int := cif (1 ≤ st ∧ st ≤ 60) (cif (part = 0 ∨ part = 1) (cif (t.2.2.2 = 0) NOv (theI (IsErr (sV t S) (tot t) st part))) NOv) NOv
def widP (t : TT) (S : Int → Int) (e st : Int) : Prop := 1 ≤ st ∧ st ≤ 60 ∧ erP (sV t S) (tot t) st e
noncomputable def widF (t : TT) (S : Int → Int) (e : Int) : Int := cif (0 ≤ e ∧ e ≤ 9999) (cif (t.2.2.2 = 0) (-3) (gstA (widP t S e))) (-2)
/-- what is laid -/
noncomputable def layP (P Zs : Int → Int) (r i n a st : Int) (f : Int → Int) : Int → Int := fun j => cif (0 ≤ i ∧ 30 * r + i ≤ j ∧ j < 30 * r + i + n ∧ j < 30 * r + Zs r) (f (a + (j - 30 * r - i) * st)) (P j)
def layOk (t : TT) (a st n : Int) : Prop := (0 ≤ n ∧ n ≤ 30) ∧ 0 < t.2.2.2 ∧ (0 ≤ a ∧ a ≤ tot t) ∧ (1 ≤ st ∧ st ≤ 60) ∧ (n = 0 ∨ a + (n - 1) * st ≤ tot t)
noncomputable def layF (t : TT) (S P Zs : Int → Int) (r i a st n : Int) : Int × (Int → Int) := cif (0 ≤ r ∧ r < 4) (cif (0 ≤ Zs r) (cif (layOk t a st n) (if n = 0 ∨ (0 ≤ i ∧ i ≤ Zs r - n) then n else -13, layP P Zs r i n a st (sampleF t S)) (-2, P)) (-11, P)) (-1, P)
/-- the kinds by which samples would be so -/
def seeP (t : TT) (S P : Int → Int) (r i n j k : Int) : Prop := ∀ u, 0 ≤ u → u < n → P (r * 30 + (i + u)) = smp (sd k (t.2.1 j) (t.2.2.1 j) (ah t j) u) (S 5)
noncomputable def seen (t : TT) (S P : Int → Int) (r i n j : Int) : Nat → Int32
  | 0 => iI 0
  | m + 1 => cif (seeP t S P r i n j m) (seen t S P r i n j m ||| (iI 1 <<< (iI (m : Int) &&& 31))) (seen t S P r i n j m)
noncomputable def seeI (t : TT) (S P : Int → Int) (r i n j k : Int) : Int32 := seen t S P r i n j k.toNat
theorem seeI_s (t : TT) (S P : Int → Int) (r i n j : Int) {k : Int} (h : 0 ≤ k) : seeI t S P r i n j (k + 1) = cif (seeP t S P r i n j k) (seeI t S P r i n j k ||| (iI 1 <<< (iI k &&& 31))) (seeI t S P r i n j k) := by
  unfold seeI
  rw [show (k + 1).toNat = k.toNat + 1 by omega]
  show cif (seeP t S P r i n j (k.toNat : Int)) (seen t S P r i n j k.toNat ||| (iI 1 <<< (iI (k.toNat : Int) &&& 31))) (seen t S P r i n j k.toNat) = _
  rw [Int.toNat_of_nonneg h]
noncomputable def seeF (t : TT) (S P Zs : Int → Int) (r i n j : Int) : Int := cif ((0 ≤ r ∧ r < 4) ∧ 0 ≤ j ∧ j < t.2.2.2) (cif (0 ≤ Zs r) (cif ((1 ≤ n ∧ n ≤ 30) ∧ n ≤ t.2.1 j + 1) (cif (0 ≤ i ∧ i ≤ Zs r - n) (seeI t S P r i n j 6).toInt (-13)) (-2)) (-11)) (-1)
noncomputable def listF (P Zs : Int → Int) (r n : Int) : Int × ((Int → Int) × (Int → Int)) := cif (0 ≤ r ∧ r < 4) (cif (30 < n) (-2, P, Zs) (cif (n < 0) (-14, P, Zs) (1, zer P r n, uI Zs r n))) (-1, P, Zs)
noncomputable def setF (P Zs : Int → Int) (r i v : Int) : Int × (Int → Int) := cif (0 ≤ r ∧ r < 4) (cif (0 ≤ Zs r) (cif (0 ≤ i ∧ i < Zs r) (1, uI P (r * 30 + i) v) (-13, P)) (-11, P)) (-1, P)
noncomputable def getF (P Zs : Int → Int) (r i : Int) : Int := cif ((0 ≤ r ∧ r < 4) ∧ 0 ≤ i ∧ i < Zs r) (P (r * 30 + i)) NOv
noncomputable def feedF (b : Int → Int) (n v : Int) : Int × ((Int → Int) × Int) := cif (1 ≤ v ∧ v ≤ 127) (cif (120 ≤ n) (-4, b, n) (n + 1, uI b n v, n + 1)) (-2, b, n)
section C10
variable (l : Launch) (p : PS) (rj : RJ) (g : RR) (q2 : Int × Int) (co : Int → Int)
theorem lp_C_error (h : PV p) (s : SS) (w : WW) (sm : Int → Int) (st part : Int) (hp : part = 0 ∨ part = 1) (hs : 1 ≤ st ∧ st ≤ 60) (hf : ∀ x, 0 ≤ x → x ≤ tot p.t → -1300000 ≤ sm x ∧ sm x ≤ 1300000) : ∀ (d : Nat) (a : Int) (q : Int × Int), 0 ≤ a → a ≤ tot p.t + 1 → tot p.t + 1 - a < d → (0 < q.2 ∧ q.2 ≤ 60) → (0 ≤ q.1 ∧ q.1 ≤ 400000000) → ((q.1 = 0 ∧ q.2 = 1) ∨ ∃ x, 0 ≤ x ∧ x ≤ tot p.t ∧ q.1 = gap sm x st (tot p.t) ∧ q.2 = spa x st (tot p.t)) → (∀ x, 0 ≤ x → x < a → gap sm x st (tot p.t) * q.2 ≤ q.1 * spa x st (tot p.t)) → Z (l, M_C_error, R_C_error, (0, 0), false, zAl (theI (IsErr sm (tot p.t) st part)) (EC rj p)) 0 0 (eC p rj s w g q q2 sm co) 56 [(0, .ref 0), (1, .int (iI st)), (2, .int (iI part)), (3, .int (iI (tot p.t))), (4, .int (iI a))] [] := by
  have ht := h.1.2.1
  intro d
  induction d with
  | zero => intro a q h2 h3 h4; omega
  | succ d ih =>
    intro a q h2 h3 h4 h5 h6 h7 h8
    refine Z_iload 28 rfl rfl ?_
    refine Z_iload_n 29 rfl rfl rfl ?_
    refine Z_icmp_gt 30 rfl (tgt := 131) rfl (by omega) (by omega) (fun c59 => ?_) (fun c59 => ?_)
    · refine Z_aload_n 65 rfl rfl rfl ?_
      refine Z_get 66 rfl f_C_74 rfl rfl ?_
      refine Z_getN 67 rfl f_C_209 rfl rfl ?_
      refine Z_aload_n 68 rfl rfl rfl ?_
      refine Z_get 69 rfl f_C_74 rfl rfl ?_
      refine Z_getN 70 rfl f_C_212 rfl rfl ?_
      refine Z_iload_n 71 rfl rfl rfl ?_
      refine Z_callSlp (M' := M_C_lowest) 72 [] rfl l_C_198 C_C_lowest (c_C_lowest l q.1 q.2 part (by clear h7 h8; omega) (by clear h7 h8; omega) (by clear h7 h8; omega)) ⟨List.nodup_nil, zEL.n⟩ rfl rfl rfl (Nat.le_of_ble_eq_true rfl) ⟨rfl, rfl, Nat.le_of_ble_eq_true rfl, Nat.le_of_ble_eq_true rfl⟩ ⟨Nat.zero_le _, Nat.zero_le _⟩ ?_
      refine Z_lret 73 rfl rfl ⟨Nat.le_refl _, Nat.le_refl _⟩ ?_
      exact ⟨by
        have hE : IsErr sm (tot p.t) st part (lo q.1 q.2 part) := ⟨q.1, q.2, h5.1, h6.1, h7, fun x x1 x2 => h8 x x1 (by omega), rfl⟩
        rw [theI_eq hE (fun x hx => IsErr_un hx hE)], _, _, _, _, _, _, _, rfl⟩
    · refine Z_iload 31 rfl rfl ?_
      refine Z_sipush 32 rfl rfl ?_
      refine Z_icmp_gt 33 rfl (tgt := 131) rfl (by omega) (by omega) (fun c67 => ?_) (fun c67 => ?_)
      · exfalso; omega
      have g1 := gap_bd (f := sm) (a := a) (st := st) (T := tot p.t) (by omega) hs hf
      have g2 := frm_bd (a := a) (st := st) (T := tot p.t) (by omega) hs
      have g3 := mul_bd (x := gap sm a st (tot p.t)) (y := q.2) (A := 400000000) (B := 60) g1 (by omega)
      have g4 := mul_bd (x := q.1) (y := spa a st (tot p.t)) (A := 400000000) (B := 60) h6 (by omega)
      refine Z_aload_n 34 rfl rfl rfl ?_
      refine Z_iload 35 rfl rfl ?_
      refine Z_iload_n 36 rfl rfl rfl ?_
      refine Z_iload_n 37 rfl rfl rfl ?_
      refine Z_callVlp (M' := M_C_gapAt) 38 isC rfl l_C_299 C_C_gapAt (c_C_gapAt l p rj g q q2 co s w sm a st (tot p.t) (by omega) ht hs hf) (emC ..) (Or.inl ⟨_, _, _, _, rfl, rfl⟩) rfl rfl rfl (Nat.le_of_ble_eq_true rfl) ⟨rfl, rfl, Nat.le_of_ble_eq_true rfl, Nat.le_of_ble_eq_true rfl⟩ ⟨Nat.zero_le _, Nat.zero_le _⟩ ?_
      refine Z_lstore 39 rfl (Nat.le_of_ble_eq_true rfl) (lv' := [(5, .long _), (0, .ref _), (1, .int _), (2, .int _), (3, .int _), (4, .int _)]) rfl ?_
      refine Z_iload 40 rfl rfl ?_
      refine Z_iload_n 41 rfl rfl rfl ?_
      refine Z_iload_n 42 rfl rfl rfl ?_
      refine Z_callSip (M' := M_C_spanAt) 43 [] rfl l_C_303 C_C_spanAt (c_C_spanAt l a st (tot p.t) (by omega) ht hs) ⟨List.nodup_nil, zEL.n⟩ rfl rfl rfl (Nat.le_of_ble_eq_true rfl) ⟨rfl, rfl, Nat.le_of_ble_eq_true rfl, Nat.le_of_ble_eq_true rfl⟩ ⟨Nat.zero_le _, Nat.zero_le _⟩ ?_
      refine Z_i2l 44 rfl (by omega) ?_
      refine Z_lstore 45 rfl (Nat.le_of_ble_eq_true rfl) (lv' := [(7, .long _), (5, .long _), (0, .ref _), (1, .int _), (2, .int _), (3, .int _), (4, .int _)]) rfl ?_
      refine Z_lload 46 rfl rfl ?_
      refine Z_aload_n 47 rfl rfl rfl ?_
      refine Z_get 48 rfl f_C_74 rfl rfl ?_
      refine Z_getN 49 rfl f_C_212 rfl rfl ?_
      refine Z_lmul 50 rfl ?_
      refine Z_aload_n 51 rfl rfl rfl ?_
      refine Z_get 52 rfl f_C_74 rfl rfl ?_
      refine Z_getN 53 rfl f_C_209 rfl rfl ?_
      refine Z_lload 54 rfl rfl ?_
      refine Z_lmul 55 rfl ?_
      refine Z_lc_le 56 rfl rfl (tgt := 125) rfl (by omega) (by omega) (fun c110 => ?_) (fun c110 => ?_)
      · refine Z_iinc 63 rfl rfl (Nat.le_of_ble_eq_true rfl) (lv' := [(4, .int _), (7, .long _), (5, .long _), (0, .ref _), (1, .int _), (2, .int _), (3, .int _)]) rfl ?_
        refine Z_goto 64 rfl (tgt := 56) rfl ?_
        refine Z_pick [0, 1, 2, 3, 4] (lv' := [(0, .ref _), (1, .int _), (2, .int _), (3, .int _), (4, .int _)]) rfl ?_
        first
          | exact ih (a + 1) q (by omega) (by omega) (by omega) h5 h6 h7 (fun x x1 x2 => by
              by_cases ex : x = a
              · rw [ex]; omega
              · exact h8 x x1 (by omega))
          | exact ih (a + 1) (gap sm a st (tot p.t), spa a st (tot p.t)) (by omega) (by omega) (by omega) g2.2.1 g1 (Or.inr ⟨a, h2, by omega, rfl, rfl⟩) (fun x x1 x2 => by
              show gap sm x st (tot p.t) * spa a st (tot p.t) ≤ gap sm a st (tot p.t) * spa x st (tot p.t)
              by_cases ex : x = a
              · rw [ex]
                exact Int.le_refl _
              · have k1 := frm_bd (a := x) (st := st) (T := tot p.t) (by omega) hs
                have k2 := fr1 h5.1 (show 0 < spa a st (tot p.t) by omega) (show 0 < spa x st (tot p.t) by omega) (h8 x x1 (by omega)) (show q.1 * spa a st (tot p.t) < gap sm a st (tot p.t) * q.2 by omega)
                omega)
      · refine Z_aload_n 58 rfl rfl rfl ?_
        refine Z_get 59 rfl f_C_74 rfl rfl ?_
        refine Z_lload 60 rfl rfl ?_
        refine Z_lload 61 rfl rfl ?_
        refine Z_callVv (M' := M_Q_become) 62 [23] rfl l_C_260 C_Q_become (c_Q_become l q.1 q.2 (gap sm a st (tot p.t)) (spa a st (tot p.t))) ⟨by decide, (zEL.c (Or.inl rfl) zEL.n)⟩ (Or.inl ⟨_, _, _, _, rfl, rfl⟩) rfl rfl rfl (Nat.le_of_ble_eq_true rfl) ⟨rfl, rfl, Nat.le_of_ble_eq_true rfl, Nat.le_of_ble_eq_true rfl⟩ ⟨Nat.zero_le _, Nat.zero_le _⟩ (fun out hq => ?_)
        obtain rfl := hq
        refine Z_mem (show _ = eC p rj s w g (gap sm a st (tot p.t), spa a st (tot p.t)) q2 sm co from rfl) ?_
        refine Z_iinc 63 rfl rfl (Nat.le_of_ble_eq_true rfl) (lv' := [(4, .int _), (7, .long _), (5, .long _), (0, .ref _), (1, .int _), (2, .int _), (3, .int _)]) rfl ?_
        refine Z_goto 64 rfl (tgt := 56) rfl ?_
        refine Z_pick [0, 1, 2, 3, 4] (lv' := [(0, .ref _), (1, .int _), (2, .int _), (3, .int _), (4, .int _)]) rfl ?_
        first
          | exact ih (a + 1) q (by omega) (by omega) (by omega) h5 h6 h7 (fun x x1 x2 => by
              by_cases ex : x = a
              · rw [ex]; omega
              · exact h8 x x1 (by omega))
          | exact ih (a + 1) (gap sm a st (tot p.t), spa a st (tot p.t)) (by omega) (by omega) (by omega) g2.2.1 g1 (Or.inr ⟨a, h2, by omega, rfl, rfl⟩) (fun x x1 x2 => by
              show gap sm x st (tot p.t) * spa a st (tot p.t) ≤ gap sm a st (tot p.t) * spa x st (tot p.t)
              by_cases ex : x = a
              · rw [ex]
                exact Int.le_refl _
              · have k1 := frm_bd (a := x) (st := st) (T := tot p.t) (by omega) hs
                have k2 := fr1 h5.1 (show 0 < spa a st (tot p.t) by omega) (show 0 < spa x st (tot p.t) by omega) (h8 x x1 (by omega)) (show q.1 * spa a st (tot p.t) < gap sm a st (tot p.t) * q.2 by omega)
                omega)
theorem TV_t0 {t : TT} (h : TV t) : 0 ≤ tot t := by
  have := bg_mono h.1 (Int.le_refl 0) h.1.1.1
  rw [bg_0] at this
  exact this
theorem c_C_error (h : PV p) (s : SS) (w : WW) (sm : Int → Int) (q : Int × Int) (st part : Int) (h1 : inI st) (h2 : inI part) : Con l M_C_error R_C_error 0 0 false [.ref 0, .int (iI st), .int (iI part)] (eC p rj s w g q q2 sm co) (zAl (errF p.t p.s st part) (EC rj p)) := by
  have hn := h.1.1.1
  have ht0 := TV_t0 h.1
  refine Con.of_Z (by decide) D_C_error (Nat.le_of_ble_eq_true rfl) ?_
  refine Z_iload_n 0 rfl rfl rfl ?_
  refine Z_iconst 1 rfl ?_
  refine Z_icmp_lt 2 rfl (tgt := 28) rfl (by omega) (by omega) (fun c2 => ?_) (fun c2 => ?_)
  · refine Z_ldc2 13 rfl k_C_182 (c := -9223372036854775808) rfl ?_
    refine Z_lret 14 rfl rfl ⟨Nat.le_refl _, Nat.le_refl _⟩ ?_
    exact ⟨by unfold errF; (repeat (first | rw [cif_t (by first | assumption | omega)] | rw [cif_f (by first | assumption | omega)])) <;> rfl, _, _, _, _, _, _, _, rfl⟩
  · refine Z_iload_n 3 rfl rfl rfl ?_
    refine Z_bipush 4 rfl rfl ?_
    refine Z_icmp_gt 5 rfl (tgt := 28) rfl (by omega) (by omega) (fun c8 => ?_) (fun c8 => ?_)
    · refine Z_ldc2 13 rfl k_C_182 (c := -9223372036854775808) rfl ?_
      refine Z_lret 14 rfl rfl ⟨Nat.le_refl _, Nat.le_refl _⟩ ?_
      exact ⟨by unfold errF; (repeat (first | rw [cif_t (by first | assumption | omega)] | rw [cif_f (by first | assumption | omega)])) <;> rfl, _, _, _, _, _, _, _, rfl⟩
    · refine Z_iload_n 6 rfl rfl rfl ?_
      refine Z_callSbp (M' := M_C_isPart) 7 [] rfl l_C_176 C_C_isPart (c_C_isPart l part h2) ⟨List.nodup_nil, zEL.n⟩ rfl rfl rfl (Nat.le_of_ble_eq_true rfl) ⟨rfl, rfl, Nat.le_of_ble_eq_true rfl, Nat.le_of_ble_eq_true rfl⟩ ⟨Nat.zero_le _, Nat.zero_le _⟩ ?_
      refine Z_ifb_eq 8 rfl (tgt := 28) rfl (fun c15 => ?_) (fun c15 => ?_)
      · refine Z_ldc2 13 rfl k_C_182 (c := -9223372036854775808) rfl ?_
        refine Z_lret 14 rfl rfl ⟨Nat.le_refl _, Nat.le_refl _⟩ ?_
        exact ⟨by unfold errF; (repeat (first | rw [cif_t (by first | assumption | omega)] | rw [cif_f (by first | assumption | omega)])) <;> rfl, _, _, _, _, _, _, _, rfl⟩
      · refine Z_aload_n 9 rfl rfl rfl ?_
        refine Z_get 10 rfl f_C_14 rfl rfl ?_
        refine Z_callVip (M' := M_T_size) 11 [1, 2, 3, 4] rfl l_C_111 C_T_size (c_T_size l p.t) ⟨by decide, (zEL.c (Or.inl rfl) (zEL.c (Or.inl rfl) (zEL.c (Or.inl rfl) (zEL.c (Or.inl rfl) zEL.n))))⟩ (Or.inl ⟨_, _, _, _, rfl, rfl⟩) rfl rfl rfl (Nat.le_of_ble_eq_true rfl) ⟨rfl, rfl, Nat.le_of_ble_eq_true rfl, Nat.le_of_ble_eq_true rfl⟩ ⟨Nat.zero_le _, Nat.zero_le _⟩ ?_
        refine Z_if_ne 12 rfl (tgt := 32) rfl (by omega) (fun c25 => ?_) (fun c25 => ?_)
        · refine Z_aload_n 15 rfl rfl rfl ?_
          refine Z_callVv (M' := M_C_takeSamples) 16 isC rfl l_C_296 C_C_takeSamples (c_C_takeSamples l p rj g q q2 co h (by omega) s w sm) (emC ..) (Or.inl ⟨_, _, _, _, rfl, rfl⟩) rfl rfl rfl (Nat.le_of_ble_eq_true rfl) ⟨rfl, rfl, Nat.le_of_ble_eq_true rfl, Nat.le_of_ble_eq_true rfl⟩ ⟨Nat.zero_le _, Nat.zero_le _⟩ (fun out hq => ?_)
          obtain ⟨s', w', sm', rfl, hsm⟩ := hq
          refine Z_mem (mgC ..) ?_
          refine Z_aload_n 17 rfl rfl rfl ?_
          refine Z_get 18 rfl f_C_14 rfl rfl ?_
          refine Z_callVip (M' := M_T_total) 19 [1, 2, 3, 4] rfl l_C_103 C_T_total (c_T_total l p.t h.1.1) ⟨by decide, (zEL.c (Or.inl rfl) (zEL.c (Or.inl rfl) (zEL.c (Or.inl rfl) (zEL.c (Or.inl rfl) zEL.n))))⟩ (Or.inl ⟨_, _, _, _, rfl, rfl⟩) rfl rfl rfl (Nat.le_of_ble_eq_true rfl) ⟨rfl, rfl, Nat.le_of_ble_eq_true rfl, Nat.le_of_ble_eq_true rfl⟩ ⟨Nat.zero_le _, Nat.zero_le _⟩ ?_
          refine Z_istore_n 20 rfl rfl (Nat.le_of_ble_eq_true rfl) (lv' := [(3, .int _), (0, .ref _), (1, .int _), (2, .int _)]) rfl ?_
          refine Z_aload_n 21 rfl rfl rfl ?_
          refine Z_get 22 rfl f_C_74 rfl rfl ?_
          refine Z_lconst 23 rfl ?_
          refine Z_lconst 24 rfl ?_
          refine Z_callVv (M' := M_Q_become) 25 [23] rfl l_C_260 C_Q_become (c_Q_become l q.1 q.2 0 1) ⟨by decide, (zEL.c (Or.inl rfl) zEL.n)⟩ (Or.inl ⟨_, _, _, _, rfl, rfl⟩) rfl rfl rfl (Nat.le_of_ble_eq_true rfl) ⟨rfl, rfl, Nat.le_of_ble_eq_true rfl, Nat.le_of_ble_eq_true rfl⟩ ⟨Nat.zero_le _, Nat.zero_le _⟩ (fun out hq => ?_)
          obtain rfl := hq
          refine Z_mem (show _ = eC p rj s' w' g (0, 1) q2 sm' co from rfl) ?_
          refine Z_iconst 26 rfl ?_
          refine Z_istore 27 rfl (Nat.le_of_ble_eq_true rfl) (lv' := [(4, .int _), (3, .int _), (0, .ref _), (1, .int _), (2, .int _)]) rfl ?_
          refine Z_pick [0, 1, 2, 3, 4] (lv' := [(0, .ref _), (1, .int _), (2, .int _), (3, .int _), (4, .int _)]) rfl ?_
          have hz := lp_C_error l p rj g q2 co h s' w' sm' st part c15 (by omega) (fun x x1 x2 => by rw [hsm x x1 x2]; exact sV_bd h.1 h.2.1 (by omega) x1 x2) 362 0 (0, 1) (by omega) (by omega) (by have := h.1.2.1; omega) ⟨(show (0 : Int) < 1 by omega), (show (1 : Int) ≤ 60 by omega)⟩ ⟨(show (0 : Int) ≤ 0 by omega), (show (0 : Int) ≤ 400000000 by omega)⟩ (Or.inl ⟨rfl, rfl⟩) (fun x x1 x2 => by omega)
          have ec : IsErr sm' (tot p.t) st part = IsErr (sV p.t p.s) (tot p.t) st part := by
            funext v
            exact propext ⟨IsErr_c (by omega) hsm, IsErr_c (by omega) (fun x x1 x2 => (hsm x x1 x2).symm)⟩
          rw [ec] at hz
          unfold errF
          rw [cif_t (by omega), cif_t c15, cif_f c25]
          exact hz
        · refine Z_ldc2 13 rfl k_C_182 (c := -9223372036854775808) rfl ?_
          refine Z_lret 14 rfl rfl ⟨Nat.le_refl _, Nat.le_refl _⟩ ?_
          exact ⟨by unfold errF; (repeat (first | rw [cif_t (by first | assumption | omega)] | rw [cif_f (by first | assumption | omega)])) <;> rfl, _, _, _, _, _, _, _, rfl⟩
theorem erP_c {f f' : Int → Int} {T st e : Int} (hs : 1 ≤ st ∧ st ≤ 60) (h : ∀ x, 0 ≤ x → x ≤ T → f x = f' x) : erP f T st e ↔ erP f' T st e := by
  constructor
  · intro hz a a1 a2
    rw [← gap_c ⟨a1, a2⟩ hs h]
    exact hz a a1 a2
  · intro hz a a1 a2
    rw [gap_c ⟨a1, a2⟩ hs h]
    exact hz a a1 a2
theorem lp_C_widest (h : PV p) (q : Int × Int) (s : SS) (w : WW) (sm : Int → Int) (e : Int) (he : 0 ≤ e ∧ e ≤ 9999) (hn : 0 < p.t.2.2.2) (hsm : ∀ a, 0 ≤ a → a ≤ tot p.t → sm a = sV p.t p.s a) : ∀ (d : Nat) (st : Int), 0 ≤ st → st ≤ 60 → st < d → (∀ x, st < x → ¬ widP p.t p.s e x) → Z (l, M_C_widest, R_C_widest, (0, 0), false, zAi (gstA (widP p.t p.s e)) (EC rj p)) 0 0 (eC p rj s w g q q2 sm co) 34 [(0, .ref 0), (1, .int (iI e)), (2, .int (iI st))] [] := by
  have hf : ∀ x, 0 ≤ x → x ≤ tot p.t → -1300000 ≤ sm x ∧ sm x ≤ 1300000 := fun x x1 x2 => by rw [hsm x x1 x2]; exact sV_bd h.1 h.2.1 hn x1 x2
  intro d
  induction d with
  | zero => intro st h2 h3 h4; omega
  | succ d ih =>
    intro st h2 h3 h4 h5
    refine Z_iload_n 17 rfl rfl rfl ?_
    refine Z_iconst 18 rfl ?_
    refine Z_icmp_lt 19 rfl (tgt := 56) rfl (by omega) (by omega) (fun c36 => ?_) (fun c36 => ?_)
    · refine Z_bipush 29 rfl rfl ?_
      refine Z_iret 30 rfl rfl ⟨Nat.le_refl _, Nat.le_refl _⟩ ?_
      exact ⟨by rw [gstA_eq (P := widP p.t p.s e) (v := -5) (Or.inr ⟨rfl, fun x hx => h5 x (by have := hx.1; omega) hx⟩)], _, _, _, _, _, _, _, rfl⟩
    · refine Z_aload_n 20 rfl rfl rfl ?_
      refine Z_iload_n 21 rfl rfl rfl ?_
      refine Z_iload_n 22 rfl rfl rfl ?_
      refine Z_callVbp (M' := M_C_isErrorWithin) 23 isC rfl l_C_307 C_C_isErrorWithin (c_C_isErrorWithin l p rj g q q2 co h s w sm st e he (by omega) hf (TV_t0 h.1)) (emC ..) (Or.inl ⟨_, _, _, _, rfl, rfl⟩) rfl rfl rfl (Nat.le_of_ble_eq_true rfl) ⟨rfl, rfl, Nat.le_of_ble_eq_true rfl, Nat.le_of_ble_eq_true rfl⟩ ⟨Nat.zero_le _, Nat.zero_le _⟩ ?_
      refine Z_ifb_eq 24 rfl (tgt := 50) rfl (fun c45 => ?_) (fun c45 => ?_)
      · refine Z_iinc 27 rfl rfl (Nat.le_of_ble_eq_true rfl) (lv' := [(2, .int _), (0, .ref _), (1, .int _)]) rfl ?_
        refine Z_goto 28 rfl (tgt := 34) rfl ?_
        refine Z_pick [0, 1, 2] (lv' := [(0, .ref _), (1, .int _), (2, .int _)]) rfl ?_
        exact ih (st + -1) (by omega) (by omega) (by omega) (fun x hx => by
          by_cases ex : x = st
          · rw [ex]; exact fun z => c45 ((erP_c (by omega) hsm).mpr z.2.2)
          · exact h5 x (by omega))
      · refine Z_iload_n 25 rfl rfl rfl ?_
        refine Z_iret 26 rfl rfl ⟨Nat.le_refl _, Nat.le_refl _⟩ ?_
        exact ⟨by rw [gstA_eq (P := widP p.t p.s e) (v := st) (Or.inl ⟨⟨by omega, h3, (erP_c (by omega) hsm).mp c45⟩, fun x hx => by rcases Int.lt_or_le st x with z | z; exact absurd hx (h5 x z); exact z⟩)], _, _, _, _, _, _, _, rfl⟩
theorem c_C_widest (h : PV p) (s : SS) (w : WW) (sm : Int → Int) (q : Int × Int) (e : Int) (he : inI e) : Con l M_C_widest R_C_widest 0 0 false [.ref 0, .int (iI e)] (eC p rj s w g q q2 sm co) (zAi (widF p.t p.s e) (EC rj p)) := by
  have hn := h.1.1.1
  refine Con.of_Z (by decide) D_C_widest (Nat.le_of_ble_eq_true rfl) ?_
  refine Z_iload_n 0 rfl rfl rfl ?_
  refine Z_if_lt 1 rfl (tgt := 11) rfl (by omega) (fun c1 => ?_) (fun c1 => ?_)
  · refine Z_bipush 5 rfl rfl ?_
    refine Z_iret 6 rfl rfl ⟨Nat.le_refl _, Nat.le_refl _⟩ ?_
    exact ⟨by unfold widF; (repeat (first | rw [cif_t (by first | assumption | omega)] | rw [cif_f (by first | assumption | omega)])), _, _, _, _, _, _, _, rfl⟩
  · refine Z_iload_n 2 rfl rfl rfl ?_
    refine Z_sipush 3 rfl rfl ?_
    refine Z_icmp_le 4 rfl (tgt := 14) rfl (by omega) (by omega) (fun c8 => ?_) (fun c8 => ?_)
    · refine Z_aload_n 7 rfl rfl rfl ?_
      refine Z_get 8 rfl f_C_14 rfl rfl ?_
      refine Z_callVip (M' := M_T_size) 9 [1, 2, 3, 4] rfl l_C_111 C_T_size (c_T_size l p.t) ⟨by decide, (zEL.c (Or.inl rfl) (zEL.c (Or.inl rfl) (zEL.c (Or.inl rfl) (zEL.c (Or.inl rfl) zEL.n))))⟩ (Or.inl ⟨_, _, _, _, rfl, rfl⟩) rfl rfl rfl (Nat.le_of_ble_eq_true rfl) ⟨rfl, rfl, Nat.le_of_ble_eq_true rfl, Nat.le_of_ble_eq_true rfl⟩ ⟨Nat.zero_le _, Nat.zero_le _⟩ ?_
      refine Z_if_ne 10 rfl (tgt := 27) rfl (by omega) (fun c21 => ?_) (fun c21 => ?_)
      · refine Z_aload_n 13 rfl rfl rfl ?_
        refine Z_callVv (M' := M_C_takeSamples) 14 isC rfl l_C_296 C_C_takeSamples (c_C_takeSamples l p rj g q q2 co h (by omega) s w sm) (emC ..) (Or.inl ⟨_, _, _, _, rfl, rfl⟩) rfl rfl rfl (Nat.le_of_ble_eq_true rfl) ⟨rfl, rfl, Nat.le_of_ble_eq_true rfl, Nat.le_of_ble_eq_true rfl⟩ ⟨Nat.zero_le _, Nat.zero_le _⟩ (fun out hq => ?_)
        obtain ⟨s', w', sm', rfl, hsm⟩ := hq
        refine Z_mem (mgC ..) ?_
        refine Z_bipush 15 rfl rfl ?_
        refine Z_istore_n 16 rfl rfl (Nat.le_of_ble_eq_true rfl) (lv' := [(2, .int _), (0, .ref _), (1, .int _)]) rfl ?_
        refine Z_pick [0, 1, 2] (lv' := [(0, .ref _), (1, .int _), (2, .int _)]) rfl ?_
        unfold widF
        rw [cif_t (by omega), cif_f c21]
        exact lp_C_widest l p rj g q2 co h q s' w' sm' e (by omega) (by omega) hsm 61 60 (by omega) (by omega) (by omega) (fun x hx hz => by have := hz.2.1; omega)
      · refine Z_bipush 11 rfl rfl ?_
        refine Z_iret 12 rfl rfl ⟨Nat.le_refl _, Nat.le_refl _⟩ ?_
        exact ⟨by unfold widF; (repeat (first | rw [cif_t (by first | assumption | omega)] | rw [cif_f (by first | assumption | omega)])), _, _, _, _, _, _, _, rfl⟩
    · refine Z_bipush 5 rfl rfl ?_
      refine Z_iret 6 rfl rfl ⟨Nat.le_refl _, Nat.le_refl _⟩ ?_
      exact ⟨by unfold widF; (repeat (first | rw [cif_t (by first | assumption | omega)] | rw [cif_f (by first | assumption | omega)])), _, _, _, _, _, _, _, rfl⟩
end C10
