/-! Strings: length, charAt of the constants -/
theorem c_J3_checkIndex (l : Launch) (i n : Int) (v : Value) (hi : 0 ≤ i ∧ i < n) (hn : n ≤ 1000) (hv : v = .ref 0 ∨ v = .null) : Con l M_J3_checkIndex R_J3_checkIndex 0 0 false [.int (iI i), .int (iI n), v] [] (zAi i (fun m => m = [])) := by
  rcases hv with rfl | rfl
  · refine Con.of_ZF (by decide +kernel) D_J3_checkIndex (Nat.le_of_ble_eq_true rfl) ?_
    refine Z_iload_n 0 rfl rfl rfl ?_
    refine Z_if_lt 1 rfl (tgt := 9) rfl (by omega) (fun c1 => ?_) (fun c1 => ?_)
    · exfalso; omega
    refine Z_iload_n 2 rfl rfl rfl ?_
    refine Z_iload_n 3 rfl rfl rfl ?_
    refine Z_icmp_lt 4 rfl (tgt := 16) rfl (by omega) (by omega) (fun c6 => ?_) (fun c6 => ?_)
    rotate_left
    · exfalso; omega
    refine Z_iload_n 10 rfl rfl rfl ?_
    refine Z_iret 11 rfl rfl ⟨Nat.le_refl _, Nat.le_refl _⟩ ?_
    exact ⟨rfl, rfl⟩
  · refine Con.of_ZF (by decide +kernel) D_J3_checkIndex (Nat.le_of_ble_eq_true rfl) ?_
    refine Z_iload_n 0 rfl rfl rfl ?_
    refine Z_if_lt 1 rfl (tgt := 9) rfl (by omega) (fun c1 => ?_) (fun c1 => ?_)
    · exfalso; omega
    refine Z_iload_n 2 rfl rfl rfl ?_
    refine Z_iload_n 3 rfl rfl rfl ?_
    refine Z_icmp_lt 4 rfl (tgt := 16) rfl (by omega) (by omega) (fun c6 => ?_) (fun c6 => ?_)
    rotate_left
    · exfalso; omega
    refine Z_iload_n 10 rfl rfl rfl ?_
    refine Z_iret 11 rfl rfl ⟨Nat.le_refl _, Nat.le_refl _⟩ ?_
    exact ⟨rfl, rfl⟩
theorem Z_chk {l : Launch} {Q : Option Value → List zE → Prop} {mem : List zE} {lv : List (Nat × Value)} {q : Nat} (i n : Int) (hi : 0 ≤ i ∧ i < n) (hn : n ≤ 1000) (hq : mem[q]? = some zU) (kk : Z (l, M_J0_checkIndex, R_J0_checkIndex, (0, 0), false, Q) 0 0 mem 9 lv []) : Z (l, M_J0_checkIndex, R_J0_checkIndex, (0, 0), false, Q) 0 0 mem 2 lv [.int (iI n), .int (iI i)] := by
  intro D cI cL ad ad0 n0 A p e s m args below meth c H locs ls hd hB hWd hag hnn hA hS hl
  obtain ⟨d0, -⟩ := zI_dec (k := 2) (pc := 2) (i := .getstatic 1053) (len := 3) (n := 5) hd rfl
  obtain ⟨d1, -⟩ := zI_dec (k := 3) (pc := 5) (i := .invokestatic 1059) (len := 3) (n := 8) hd rfl
  have hts := hB.2.2.2.2.2.2.2.1
  have hNW := hB.2.2.2.2.2.2.2.2.1
  have hK := hB.2.2.2.2.2.2.2.2.2
  have hM : zCs M_J3_checkIndex 3 := C_J3_checkIndex
  have hE : zEmb [] mem [] := ⟨List.nodup_nil, zEL.n⟩
  have key : ∀ (v : Value), (v = .null ∨ ∃ t, v = .ref t) → va_Z "jdk/internal/util/Preconditions" "SIOOBE_FORMATTER" "Ljava/util/function/BiFunction;" v A s H → W p l e R_J0_checkIndex s m args below meth c H locs 0 0 (MQ below (zQ false Q D cI cL A ad0 n0) args s 0 0 A) (F0 m 2 ls [.int (iI n), .int (iI i)]) := by
    rintro v hv ⟨cf, kf, fi, f, a, cell, g1, g2, g3, g4, g5, g6, g7, g8⟩
    refine W.gets hB.1 hB.2.1 hB.2.2.2.2.2.1 (hts _ f_J0_1053) g1 g2 g3 g4 g5 (fun z => by rw [z] at g6; cases g6) g7 rfl d0 ?_
    obtain ⟨v0, ad1, hz, hv0⟩ : ∃ (v0 : Value) (ad1 : Nat → Nat), zv ad1 v0 = v ∧ (v0 = .ref 0 ∨ v0 = .null) := by
      rcases hv with rfl | ⟨t, rfl⟩
      · exact ⟨.null, ad, rfl, Or.inr rfl⟩
      · exact ⟨.ref 0, fun _ => t, rfl, Or.inl rfl⟩
    have hcon := c_J3_checkIndex l i n v0 hi hn hv0 D cI cL ad1 H.size
    have hW0 : ∀ (U : State) (H' : Heap), zW D cI cL ad1 (zA [] ad1 H.size) U H' [] := fun U H' => ⟨fun k x hk => by simp at hk, fun i j x y hi hj => by simp at hi⟩
    have hcw := va_cwS (R := R_J0_checkIndex) (own := "java/lang/String") (index := 1059) (y := M_J3_checkIndex.1) (bytes := M_J3_checkIndex.2.1) (maxL := M_J3_checkIndex.2.2.1) (ret := M_J3_checkIndex.2.2.2.1) (ws := zws M_J3_checkIndex) (ws' := zTB) (rm := R_J3_checkIndex) (mc := 0) (ms := 0) 3 hts (zGood (fun w hw => by
      rcases List.mem_append.mp hw with hw | hw
      · simp only [List.mem_cons, List.not_mem_nil, or_false] at hw
        rcases hw with rfl | rfl | rfl
        · exact l_J0_1059
        · exact hM.2
        · exact hM.1.1
      · exact zws_in hM.1 w hw)) rfl rfl rfl hM.1.2.2 ⟨Nat.le_of_ble_eq_true rfl, Nat.le_of_ble_eq_true rfl⟩
    have hpre : ∀ U : State, U.heap = H → s.WarmedH U.vm → va_Pc ([.int (iI i), .int (iI n), v0].map (zv ad1)) (fun U => U.heap.size = H.size ∧ zW D cI cL ad1 (zA [] ad1 H.size) U U.heap [] ∧ va_K D zCls [(cI, .int), (cL, .long)] U ∧ ∀ w ∈ zNW, va_Nw w U) (([.int (iI i), .int (iI n), v0].map (zv ad1)).toArray) U := by
      intro U hU hW
      refine ⟨rfl, by rw [hU], hW0 _ _, va_K.moved hW.alike hK, fun w hw => ?_⟩
      have h1 := zNW_nest hw
      have h2 := hNW w hw
      cases w <;> first | exact va_Nw.warmF hW h2 | exact va_Nw.warmM hW h2 | (exact absurd h1 (by simp [zIsNest]))
    have est : ({ (F0 m 2 ls [.int (iI n), .int (iI i)]) with pc := (F0 m 2 ls [.int (iI n), .int (iI i)]).pc + 3, stack := v :: (F0 m 2 ls [.int (iI n), .int (iI i)]).stack } : JFrame) = F0 m 5 ls (([.int (iI i), .int (iI n), v0].map (zv ad1)).reverse ++ []) := by
      rw [← hz]
      rfl
    rw [est]
    refine zcallW (va_runS (rest := []) ⟨hB.1, hB.2.1, hB.2.2.1, hB.2.2.2.2.2.1, hts⟩ hcon hcw ⟨zPc_blind, hpre⟩ rfl rfl (zlv_size hl) rfl (lv_room (Nat.le_of_ble_eq_true rfl)) d1 ⟨Nat.zero_le _, Nat.zero_le _⟩) hS (fun x hx => ?_) (fun r out ad2 t H1 locs1 hq2 hag1 hn1 hW1 hz1 hk1 hS1 => ?_)
    · rcases hx with ⟨i2, x2, y1, -⟩ | hx
      · simp at y1
      · exact hA x (Nat.le_trans hS.1 hx)
    · obtain ⟨rfl, rfl⟩ := hq2
      have hWb := zW.back hK hWd hE (Nat.le_refl _) (t := t) (H1 := H1) (out := []) ⟨fun k x hk => by simp at hk, fun i j x y hi hj => by simp at hi⟩ hz1 (fun x h1 h2 => hk1 x h1 (fun z => h2 (z.imp (fun ⟨i2, x2, y1, _⟩ => by simp at y1) id)))
      have k2 : Z (l, M_J0_checkIndex, R_J0_checkIndex, (0, 0), false, Q) 0 0 mem 8 lv [.int (iI i)] := Z_pop 4 rfl rfl kk
      exact k2 D cI cL ad ad0 n0 A p e s m args below meth c H1 locs1 ls hd hB hWb hag hnn hA hS1 hl
  rcases (hWd.1 q _ hq).1 with h1 | ⟨t, h1⟩
  · exact key _ (Or.inl rfl) h1
  · exact key _ (Or.inr ⟨t, rfl⟩) h1
theorem c_J0_checkIndex (l : Launch) (i n : Int) (hi : 0 ≤ i ∧ i < n) (hn : n ≤ 1000) : Con l M_J0_checkIndex R_J0_checkIndex 0 0 false [.int (iI i), .int (iI n)] [zU] (zAv (fun m => m = [zU])) := by
  refine Con.of_ZF (by decide +kernel) D_J0_checkIndex (Nat.le_of_ble_eq_true rfl) ?_
  refine Z_iload_n 0 rfl rfl rfl ?_
  refine Z_iload_n 1 rfl rfl rfl ?_
  refine Z_chk (q := 0) i n hi hn rfl ?_
  exact Z_vret 5 rfl rfl ⟨Nat.le_refl _, Nat.le_refl _⟩ ⟨rfl, rfl⟩
/-- a String constant's world -/
def eSt (k N : Nat) : List zE := [zS k 1, aB N (stB k), zT [("CamPieces", "LEAST_SETTINGS", "[I", .ref 4), ("CamPieces", "MOST_SETTINGS", "[I", .ref 5), ("CamPieces", "FIRST_SETTINGS", "[I", .ref 6), ("java/lang/String", "COMPACT_STRINGS", "Z", .int (iI 1))], zU, aR 6 leF, aR 6 moF, aR 6 fiF]
theorem c_J0_coder (l : Launch) (k N : Nat) : Con l M_J0_coder R_J0_coder 0 0 false [.ref 0] (eSt k N) (zAi 0 (fun m => m = eSt k N)) := by
  refine Con.of_ZF (by decide +kernel) D_J0_coder (Nat.le_of_ble_eq_true rfl) ?_
  refine Z_gets (q := 2) 0 rfl f_J0_38 rfl (List.mem_cons_of_mem _ (List.mem_cons_of_mem _ (List.mem_cons_of_mem _ List.mem_cons_self))) ?_
  refine Z_if_eq 1 rfl (tgt := 13) rfl (by omega) (fun c3 => ?_) (fun c3 => ?_)
  · exfalso; omega
  refine Z_aload_n 2 rfl rfl rfl ?_
  refine Z_getSc 3 rfl f_J0_15 rfl ?_
  refine Z_goto 4 rfl (tgt := 14) rfl ?_
  refine Z_zret 6 rfl rfl rfl ⟨Nat.le_refl _, Nat.le_refl _⟩ ?_
  exact ⟨rfl, rfl⟩
theorem c_J0_isLatin1 (l : Launch) (k N : Nat) : Con l M_J0_isLatin1 R_J0_isLatin1 0 0 false [.ref 0] (eSt k N) (zAb True (fun m => m = eSt k N)) := by
  refine Con.of_ZF (by decide +kernel) D_J0_isLatin1 (Nat.le_of_ble_eq_true rfl) ?_
  refine Z_gets (q := 2) 0 rfl f_J0_38 rfl (List.mem_cons_of_mem _ (List.mem_cons_of_mem _ (List.mem_cons_of_mem _ List.mem_cons_self))) ?_
  refine Z_if_eq 1 rfl (tgt := 17) rfl (by omega) (fun c3 => ?_) (fun c3 => ?_)
  · exfalso; omega
  refine Z_aload_n 2 rfl rfl rfl ?_
  refine Z_getSc 3 rfl f_J0_15 rfl ?_
  refine Z_if_ne 4 rfl (tgt := 17) rfl (by omega) (fun c10 => ?_) (fun c10 => ?_)
  · exfalso; omega
  refine Z_iconst 5 rfl ?_
  refine Z_goto 6 rfl (tgt := 18) rfl ?_
  refine Z_zret 8 rfl rfl rfl ⟨Nat.le_refl _, Nat.le_refl _⟩ ?_
  exact ⟨bT trivial, rfl⟩
theorem c_J0_length (l : Launch) (k N : Nat) (hN : N = 4 ∨ N = 5 ∨ N = 7) : Con l M_J0_length R_J0_length 0 0 false [.ref 0] (eSt k N) (zAi N (fun m => m = eSt k N)) := by
  refine Con.of_ZF (by decide +kernel) D_J0_length (Nat.le_of_ble_eq_true rfl) ?_
  refine Z_aload_n 0 rfl rfl rfl ?_
  refine Z_getSv 1 rfl f_J0_9 rfl ?_
  refine Z_alB 2 rfl rfl ?_
  refine Z_aload_n 3 rfl rfl rfl ?_
  refine Z_callVip (M' := M_J0_coder) 4 [0, 1, 2, 3, 4, 5, 6] rfl l_J0_335 C_J0_coder (c_J0_coder l k N) ⟨by decide, (zEL.c (Or.inl rfl) (zEL.c (Or.inl rfl) (zEL.c (Or.inl rfl) (zEL.c (Or.inl rfl) (zEL.c (Or.inl rfl) (zEL.c (Or.inl rfl) (zEL.c (Or.inl rfl) zEL.n)))))))⟩ (Or.inr ⟨_, _, rfl, rfl⟩) rfl rfl rfl (Nat.le_of_ble_eq_true rfl) ⟨rfl, rfl, Nat.le_of_ble_eq_true rfl, Nat.le_of_ble_eq_true rfl⟩ ⟨Nat.zero_le _, Nat.zero_le _⟩ ?_
  refine Z_ishr 5 rfl ?_
  refine Z_ti (show _ = iI (N : Int) by rcases hN with e | e | e <;> subst e <;> decide) ?_
  refine Z_iret 6 rfl rfl ⟨Nat.le_refl _, Nat.le_refl _⟩ ?_
  exact ⟨rfl, rfl⟩
theorem and255 {x : Int} (h : 0 ≤ x ∧ x ≤ 127) : iI x &&& iI 255 = iI x := by
  obtain ⟨b, rfl⟩ := Int.eq_ofNat_of_zero_le h.1
  have key : ∀ b : Nat, b < 128 → iI (b : Int) &&& iI 255 = iI (b : Int) := by decide +kernel
  exact key b (by omega)
theorem nar_c {x : Int} (h : 0 ≤ x ∧ x ≤ 127) : narrow .char (.int (iI x)) = .int (iI x) := by
  have hy : ∀ b : Nat, b < 128 → narrow .char (.int (iI (b : Int))) = .int (iI (b : Int)) := by decide +kernel
  have hz := hy x.toNat (by omega)
  rw [Int.toNat_of_nonneg h.1] at hz
  exact hz
theorem c_J1_charAt (l : Launch) (N : Nat) (F : Int → Int) (hN : N ≤ 1000) (i : Int) (hi : 0 ≤ i ∧ i < (N : Int)) (hF : 0 ≤ F i ∧ F i ≤ 127) : Con l M_J1_charAt R_J1_charAt 0 0 false [.ref 0, .int (iI i)] [aB N F, zU] (zAi (F i) (fun m => m = [aB N F, zU])) := by
  refine Con.of_ZF (by decide +kernel) D_J1_charAt (Nat.le_of_ble_eq_true rfl) ?_
  refine Z_iload_n 0 rfl rfl rfl ?_
  refine Z_aload_n 1 rfl rfl rfl ?_
  refine Z_alB 2 rfl rfl ?_
  refine Z_callSvp (M' := M_J0_checkIndex) 3 [1] rfl l_J1_9 C_J0_checkIndex (c_J0_checkIndex l i N hi (by omega)) ⟨by decide, (zEL.c (Or.inl rfl) zEL.n)⟩ rfl rfl rfl (Nat.le_of_ble_eq_true rfl) ⟨rfl, rfl, Nat.le_of_ble_eq_true rfl, Nat.le_of_ble_eq_true rfl⟩ ⟨Nat.zero_le _, Nat.zero_le _⟩ ?_
  refine Z_aload_n 4 rfl rfl rfl ?_
  refine Z_iload_n 5 rfl rfl rfl ?_
  refine Z_baR 6 rfl rfl (by omega) (by omega) ?_
  refine Z_sipush 7 rfl rfl ?_
  refine Z_iand 8 rfl ?_
  refine Z_ti (and255 hF) ?_
  refine Z_i2c 9 rfl (by omega) ?_
  refine Z_zret 10 rfl rfl (nar_c hF) ⟨Nat.le_refl _, Nat.le_refl _⟩ ?_
  exact ⟨rfl, rfl⟩
theorem c_J0_charAt (l : Launch) (k N : Nat) (hN : N ≤ 1000) (i : Int) (hi : 0 ≤ i ∧ i < (N : Int)) (hF : 0 ≤ stB k i ∧ stB k i ≤ 127) : Con l M_J0_charAt R_J0_charAt 0 0 false [.ref 0, .int (iI i)] (eSt k N) (zAi (stB k i) (fun m => m = eSt k N)) := by
  refine Con.of_ZF (by decide +kernel) D_J0_charAt (Nat.le_of_ble_eq_true rfl) ?_
  refine Z_aload_n 0 rfl rfl rfl ?_
  refine Z_callVbp (M' := M_J0_isLatin1) 1 [0, 1, 2, 3, 4, 5, 6] rfl l_J0_492 C_J0_isLatin1 (c_J0_isLatin1 l k N) ⟨by decide, (zEL.c (Or.inl rfl) (zEL.c (Or.inl rfl) (zEL.c (Or.inl rfl) (zEL.c (Or.inl rfl) (zEL.c (Or.inl rfl) (zEL.c (Or.inl rfl) (zEL.c (Or.inl rfl) zEL.n)))))))⟩ (Or.inr ⟨_, _, rfl, rfl⟩) rfl rfl rfl (Nat.le_of_ble_eq_true rfl) ⟨rfl, rfl, Nat.le_of_ble_eq_true rfl, Nat.le_of_ble_eq_true rfl⟩ ⟨Nat.zero_le _, Nat.zero_le _⟩ ?_
  refine Z_ifb_eq 2 rfl (tgt := 16) rfl (fun c4 => ?_) (fun c4 => ?_)
  · exact absurd trivial c4
  refine Z_aload_n 3 rfl rfl rfl ?_
  refine Z_getSv 4 rfl f_J0_9 rfl ?_
  refine Z_iload_n 5 rfl rfl rfl ?_
  refine Z_callSip (M' := M_J1_charAt) 6 [1, 3] rfl l_J0_495 C_J1_charAt (c_J1_charAt l N (stB k) hN i hi hF) ⟨by decide, (zEL.c (Or.inl rfl) (zEL.c (Or.inl rfl) zEL.n))⟩ rfl rfl rfl (Nat.le_of_ble_eq_true rfl) ⟨rfl, rfl, Nat.le_of_ble_eq_true rfl, Nat.le_of_ble_eq_true rfl⟩ ⟨Nat.zero_le _, Nat.zero_le _⟩ ?_
  refine Z_zret 7 rfl rfl (nar_c hF) ⟨Nat.le_refl _, Nat.le_refl _⟩ ?_
  exact ⟨rfl, rfl⟩
