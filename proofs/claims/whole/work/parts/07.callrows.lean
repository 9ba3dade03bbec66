/-! the rows of Z for calls, for making cells, for the JDK's own -/
section ZK
variable {X : zX} {kc ks : Nat} {mem : List zE} {pc n : Nat} {lv : List (Nat × Value)} {st : List Value}
theorem zlv_size {ls : Array Slot} {nL : Nat} {l : List (Nat × Value)} (h : lv_has ls nL l) : ls.size = nL := h.1
abbrev zRm (rm R : Room) (M : zM) : Prop := rm.cells = 0 ∧ rm.slots = 0 ∧ rm.frames + 1 ≤ R.frames ∧ 8 + (M.2.2.1 + 11) + rm.locals ≤ R.locals
/-- an instance method -/
theorem Z_callV (k : Nat) {idx b nargs : Nat} {M' : zM} {rm : Room} {As : List Value} {sub : List zE} {Q' : Option Value → List zE → Prop} {av : List Value} {st0 : List Value} (is : List Nat) (h : X.I[k]? = some (pc, .invokevirtual idx, 3, n)) (hlk : Cond.methodLink X.M.1.cls idx M'.1 ∈ zTB) (hM : zCv M' nargs) (hc : Con X.1 M' rm 0 0 false av sub Q') (hE : zEmb is mem sub) (hrv : zRv mem b M'.1.cls) (hav : av.map (zv (zr is)) = .ref b :: As) (hna : As.length = nargs) (hst : st0 = As.reverse ++ .ref b :: st) (hcs : (st.map fun v => v.category).sum ≤ 8) (hrm : zRm rm X.R M') (hR : kc ≤ X.R.cells ∧ ks ≤ X.R.slots)
    (kk : ∀ (r : Option Value) (out : List zE), Q' r out → Z X kc ks (zMg (zr is) is out mem) n lv ((r.map (zv (zr is))).toList ++ st)) : Z X kc ks mem pc lv st0 := by
  intro D cI cL ad ad0 n0 A p e s m args below meth c H locs ls hd hB hWd hag hn hA hS hl
  obtain ⟨h1, rfl⟩ := zI_dec hd h
  subst hst
  have hts := hB.2.2.2.2.2.2.2.1
  have hNW := hB.2.2.2.2.2.2.2.2.1
  have hK := hB.2.2.2.2.2.2.2.2.2
  have hav2 : av.map (zv (fun j => ad (zr is j))) = .ref (ad b) :: As.map (zv ad) := by
    have := congrArg (List.map (zv ad)) hav
    rw [List.map_map] at this
    rw [← show (zv ad ∘ zv (zr is)) = zv (fun j => ad (zr is j)) from funext fun v => zv_zv ad (zr is) v]
    exact this
  have hcw : CallW X.R s args X.M.1.cls M'.1.cls idx M'.1 M'.2.1 M'.2.2.1 M'.2.2.2.1 (zws M') rm 0 0 nargs := by
    refine cwV nargs hts (zGood (fun w hw => ?_)) rfl hrm.1 hrm.2.1 ⟨rfl, hM.1.2.2⟩ hrm.2.2
    rcases List.mem_append.mp hw with hw | hw
    · simp only [List.mem_cons, List.not_mem_nil, or_false] at hw
      rcases hw with rfl | rfl | rfl | rfl
      · exact hlk
      · exact hM.2.1
      · exact hM.2.2
      · exact hM.1.1
    · exact zws_in hM.1 w hw
  have hpre := zPc_of (l := X.1) (av := av) hK hNW hWd hE
  rw [hav2] at hpre
  have hcon := hc D cI cL (fun j => ad (zr is j)) H.size
  rw [hav2] at hcon
  have e0 : (As.reverse ++ Value.ref b :: st).map (zv ad) = (As.map (zv ad)).reverse ++ .ref (ad b) :: st.map (zv ad) := by simp [zv]
  rw [e0]
  refine zcallW (va_runV (rest := st.map (zv ad)) ⟨hB.1, hB.2.1, hB.2.2.1, hB.2.2.2.2.2.1, hts⟩ hcon hcw ⟨zPc_blind, zRv_cell hK hWd hrv, hpre⟩ rfl (by simpa using hna) (zlv_size hl) rfl (lv_room (by rw [zcat_sum]; exact hcs)) h1 ⟨hR.1, hR.2⟩) hS (zA_sub hWd hE hA hS.1) (fun r out ad1 t H1 locs1 hq hag1 hn1 hW1 hz1 hk1 hS1 => ?_)
  have had : ad1 = fun j => ad (zr is j) := by
    unfold zAg at hag1
    simpa using hag1
  subst had
  have e1 : (r.map (zv (fun j => ad (zr is j)))).toList ++ st.map (zv ad) = ((r.map (zv (zr is))).toList ++ st).map (zv ad) := by
    cases r with
    | none => rfl
    | some v => simp [zv_zv]
  rw [e1]
  exact kk r out hq D cI cL ad ad0 n0 A p e s m args below meth c H1 locs1 ls hd hB (zW.back hK hWd hE hn1 hW1 hz1 hk1) hag (by rw [zMg_len]; exact hn) hA hS1 hl
/-- a nest mate's private instance method -/
theorem Z_callVN (k : Nat) {idx b nargs : Nat} {host : String} {M' : zM} {rm : Room} {As : List Value} {sub : List zE} {Q' : Option Value → List zE → Prop} {av : List Value} {st0 : List Value} (is : List Nat) (h : X.I[k]? = some (pc, .invokevirtual idx, 3, n)) (hlk : Cond.methodLinkNest X.M.1.cls idx M'.1 host ∈ zNW) (hM : zCv M' nargs) (hc : Con X.1 M' rm 0 0 false av sub Q') (hE : zEmb is mem sub) (hrv : zRv mem b M'.1.cls) (hav : av.map (zv (zr is)) = .ref b :: As) (hna : As.length = nargs) (hst : st0 = As.reverse ++ .ref b :: st) (hcs : (st.map fun v => v.category).sum ≤ 8) (hrm : zRm rm X.R M') (hR : kc ≤ X.R.cells ∧ ks ≤ X.R.slots)
    (kk : ∀ (r : Option Value) (out : List zE), Q' r out → Z X kc ks (zMg (zr is) is out mem) n lv ((r.map (zv (zr is))).toList ++ st)) : Z X kc ks mem pc lv st0 := by
  intro D cI cL ad ad0 n0 A p e s m args below meth c H locs ls hd hB hWd hag hn hA hS hl
  obtain ⟨h1, rfl⟩ := zI_dec hd h
  subst hst
  have hts := hB.2.2.2.2.2.2.2.1
  have hNW := hB.2.2.2.2.2.2.2.2.1
  have hK := hB.2.2.2.2.2.2.2.2.2
  have hav2 : av.map (zv (fun j => ad (zr is j))) = .ref (ad b) :: As.map (zv ad) := by
    have := congrArg (List.map (zv ad)) hav
    rw [List.map_map] at this
    rw [← show (zv ad ∘ zv (zr is)) = zv (fun j => ad (zr is j)) from funext fun v => zv_zv ad (zr is) v]
    exact this
  have hcw := va_cnB (R := X.R) (mc := 0) (ms := 0) (rm := rm) (ws' := zTB) (ws := zws M') nargs hts (zGood (zws_in hM.1)) rfl hrm.1 hrm.2.1 (hNW _ hlk) (hts _ hM.1.1) hM.1.2.2 hrm.2.2
  have hpre := zPc_of (l := X.1) (av := av) hK hNW hWd hE
  rw [hav2] at hpre
  have hcon := hc D cI cL (fun j => ad (zr is j)) H.size
  rw [hav2] at hcon
  have e0 : (As.reverse ++ Value.ref b :: st).map (zv ad) = (As.map (zv ad)).reverse ++ .ref (ad b) :: st.map (zv ad) := by simp [zv]
  rw [e0]
  refine zcallW (va_runVN (rest := st.map (zv ad)) ⟨hB.1, hB.2.1, hB.2.2.1, hB.2.2.2.2.2.1, hts⟩ hcon ⟨hcw, hts _ hM.2.1, hts _ hM.2.2⟩ ⟨zPc_blind, zRv_cell hK hWd hrv, hpre⟩ rfl (by simpa using hna) (zlv_size hl) rfl (lv_room (by rw [zcat_sum]; exact hcs)) h1 ⟨hR.1, hR.2⟩) hS (zA_sub hWd hE hA hS.1) (fun r out ad1 t H1 locs1 hq hag1 hn1 hW1 hz1 hk1 hS1 => ?_)
  have had : ad1 = fun j => ad (zr is j) := by
    unfold zAg at hag1
    simpa using hag1
  subst had
  have e1 : (r.map (zv (fun j => ad (zr is j)))).toList ++ st.map (zv ad) = ((r.map (zv (zr is))).toList ++ st).map (zv ad) := by
    cases r with
    | none => rfl
    | some v => simp [zv_zv]
  rw [e1]
  exact kk r out hq D cI cL ad ad0 n0 A p e s m args below meth c H1 locs1 ls hd hB (zW.back hK hWd hE hn1 hW1 hz1 hk1) hag (by rw [zMg_len]; exact hn) hA hS1 hl
/-- a static method -/
theorem Z_callS (k : Nat) {idx nargs : Nat} {M' : zM} {rm : Room} {As : List Value} {sub : List zE} {Q' : Option Value → List zE → Prop} {av : List Value} {st0 : List Value} (is : List Nat) (h : X.I[k]? = some (pc, .invokestatic idx, 3, n)) (hlk : Cond.methodLink X.M.1.cls idx M'.1 ∈ zTB) (hM : zCs M' nargs) (hc : Con X.1 M' rm 0 0 false av sub Q') (hE : zEmb is mem sub) (hav : av.map (zv (zr is)) = As) (hna : As.length = nargs) (hst : st0 = As.reverse ++ st) (hcs : (st.map fun v => v.category).sum ≤ 8) (hrm : zRm rm X.R M') (hR : kc ≤ X.R.cells ∧ ks ≤ X.R.slots)
    (kk : ∀ (r : Option Value) (out : List zE), Q' r out → Z X kc ks (zMg (zr is) is out mem) n lv ((r.map (zv (zr is))).toList ++ st)) : Z X kc ks mem pc lv st0 := by
  intro D cI cL ad ad0 n0 A p e s m args below meth c H locs ls hd hB hWd hag hn hA hS hl
  obtain ⟨h1, rfl⟩ := zI_dec hd h
  subst hst
  have hts := hB.2.2.2.2.2.2.2.1
  have hNW := hB.2.2.2.2.2.2.2.2.1
  have hK := hB.2.2.2.2.2.2.2.2.2
  have hav2 : av.map (zv (fun j => ad (zr is j))) = As.map (zv ad) := by
    have := congrArg (List.map (zv ad)) hav
    rw [List.map_map] at this
    rw [← show (zv ad ∘ zv (zr is)) = zv (fun j => ad (zr is j)) from funext fun v => zv_zv ad (zr is) v]
    exact this
  have hcw := va_cwS (R := X.R) (own := X.M.1.cls) (index := idx) (y := M'.1) (bytes := M'.2.1) (maxL := M'.2.2.1) (ret := M'.2.2.2.1) (ws := zws M') (ws' := zTB) (rm := rm) (mc := 0) (ms := 0) nargs hts (zGood (fun w hw => by
    rcases List.mem_append.mp hw with hw | hw
    · simp only [List.mem_cons, List.not_mem_nil, or_false] at hw
      rcases hw with rfl | rfl | rfl
      · exact hlk
      · exact hM.2
      · exact hM.1.1
    · exact zws_in hM.1 w hw)) rfl hrm.1 hrm.2.1 hM.1.2.2 hrm.2.2
  have hpre := zPc_of (l := X.1) (av := av) hK hNW hWd hE
  rw [hav2] at hpre
  have hcon := hc D cI cL (fun j => ad (zr is j)) H.size
  rw [hav2] at hcon
  have e0 : (As.reverse ++ st).map (zv ad) = (As.map (zv ad)).reverse ++ st.map (zv ad) := by simp
  rw [e0]
  refine zcallW (va_runS (rest := st.map (zv ad)) ⟨hB.1, hB.2.1, hB.2.2.1, hB.2.2.2.2.2.1, hts⟩ hcon hcw ⟨zPc_blind, hpre⟩ rfl (by simpa using hna) (zlv_size hl) rfl (lv_room (by rw [zcat_sum]; exact hcs)) h1 ⟨hR.1, hR.2⟩) hS (zA_sub hWd hE hA hS.1) (fun r out ad1 t H1 locs1 hq hag1 hn1 hW1 hz1 hk1 hS1 => ?_)
  have had : ad1 = fun j => ad (zr is j) := by
    unfold zAg at hag1
    simpa using hag1
  subst had
  have e1 : (r.map (zv (fun j => ad (zr is j)))).toList ++ st.map (zv ad) = ((r.map (zv (zr is))).toList ++ st).map (zv ad) := by
    cases r with
    | none => rfl
    | some v => simp [zv_zv]
  rw [e1]
  exact kk r out hq D cI cL ad ad0 n0 A p e s m args below meth c H1 locs1 ls hd hB (zW.back hK hWd hE hn1 hW1 hz1 hk1) hag (by rw [zMg_len]; exact hn) hA hS1 hl
/-- a nest mate's private static method -/
theorem Z_callSN (k : Nat) {idx nargs : Nat} {host : String} {M' : zM} {rm : Room} {As : List Value} {sub : List zE} {Q' : Option Value → List zE → Prop} {av : List Value} {st0 : List Value} (is : List Nat) (h : X.I[k]? = some (pc, .invokestatic idx, 3, n)) (hlk : Cond.methodLinkNest X.M.1.cls idx M'.1 host ∈ zNW) (hM : zCs M' nargs) (hc : Con X.1 M' rm 0 0 false av sub Q') (hE : zEmb is mem sub) (hav : av.map (zv (zr is)) = As) (hna : As.length = nargs) (hst : st0 = As.reverse ++ st) (hcs : (st.map fun v => v.category).sum ≤ 8) (hrm : zRm rm X.R M') (hR : kc ≤ X.R.cells ∧ ks ≤ X.R.slots)
    (kk : ∀ (r : Option Value) (out : List zE), Q' r out → Z X kc ks (zMg (zr is) is out mem) n lv ((r.map (zv (zr is))).toList ++ st)) : Z X kc ks mem pc lv st0 := by
  intro D cI cL ad ad0 n0 A p e s m args below meth c H locs ls hd hB hWd hag hn hA hS hl
  obtain ⟨h1, rfl⟩ := zI_dec hd h
  subst hst
  have hts := hB.2.2.2.2.2.2.2.1
  have hNW := hB.2.2.2.2.2.2.2.2.1
  have hK := hB.2.2.2.2.2.2.2.2.2
  have hav2 : av.map (zv (fun j => ad (zr is j))) = As.map (zv ad) := by
    have := congrArg (List.map (zv ad)) hav
    rw [List.map_map] at this
    rw [← show (zv ad ∘ zv (zr is)) = zv (fun j => ad (zr is j)) from funext fun v => zv_zv ad (zr is) v]
    exact this
  have hcw := va_cnB (R := X.R) (mc := 0) (ms := 0) (rm := rm) (ws' := zTB) (ws := zws M') nargs hts (zGood (zws_in hM.1)) rfl hrm.1 hrm.2.1 (hNW _ hlk) (hts _ hM.1.1) hM.1.2.2 hrm.2.2
  have hpre := zPc_of (l := X.1) (av := av) hK hNW hWd hE
  rw [hav2] at hpre
  have hcon := hc D cI cL (fun j => ad (zr is j)) H.size
  rw [hav2] at hcon
  have e0 : (As.reverse ++ st).map (zv ad) = (As.map (zv ad)).reverse ++ st.map (zv ad) := by simp
  rw [e0]
  refine zcallW (va_runSN (rest := st.map (zv ad)) ⟨hB.1, hB.2.1, hB.2.2.1, hB.2.2.2.2.2.1, hts⟩ hcon ⟨hcw, hts _ hM.2, trivial⟩ ⟨zPc_blind, hpre⟩ rfl (by simpa using hna) (zlv_size hl) rfl (lv_room (by rw [zcat_sum]; exact hcs)) h1 ⟨hR.1, hR.2⟩) hS (zA_sub hWd hE hA hS.1) (fun r out ad1 t H1 locs1 hq hag1 hn1 hW1 hz1 hk1 hS1 => ?_)
  have had : ad1 = fun j => ad (zr is j) := by
    unfold zAg at hag1
    simpa using hag1
  subst had
  have e1 : (r.map (zv (fun j => ad (zr is j)))).toList ++ st.map (zv ad) = ((r.map (zv (zr is))).toList ++ st).map (zv ad) := by
    cases r with
    | none => rfl
    | some v => simp [zv_zv]
  rw [e1]
  exact kk r out hq D cI cL ad ad0 n0 A p e s m args below meth c H1 locs1 ls hd hB (zW.back hK hWd hE hn1 hW1 hz1 hk1) hag (by rw [zMg_len]; exact hn) hA hS1 hl
/-- Math's own -/
theorem Z_absI (k : Nat) {idx : Nat} {x : Int} (h : X.I[k]? = some (pc, .invokestatic idx, 3, n)) (hlk : Cond.methodLink X.M.1.cls idx Lib.Math.abs.name ∈ zTB) (hs : Cond.static Lib.Math.abs.name ∈ zTB) (hi : Cond.initialized "java/lang/Math" ∈ zTB) (hcd : Cond.code Lib.Math.abs.name Lib.Math.abs.code 1 (some .int) ∈ zTB) (hx : -2147483648 < x ∧ x ≤ 2147483647) (hcs : (st.map fun v => v.category).sum + 13 ≤ X.R.locals) (hR : 1 ≤ X.R.frames ∧ kc ≤ X.R.cells ∧ ks ≤ X.R.slots) (kk : Z X kc ks mem n lv (.int (iI (if 0 ≤ x then x else -x)) :: st)) : Z X kc ks mem pc lv (.int (iI x) :: st) := by
  intro D cI cL ad ad0 n0 A p e s m args below meth c H locs ls hd hB hWd hag hn hA hS hl
  obtain ⟨h1, rfl⟩ := zI_dec hd h
  have hts := hB.2.2.2.2.2.2.2.1
  refine va_mabs hB.1 hB.2.1 (hB.2.2.1.trans (zlv_size hl).symm) hB.2.2.2.2.2.1 (hts _ hlk) (hts _ hs) (hts _ hi) (hts _ hcd) hR.1 (by rw [zcat_sum]; exact hcs) hR.2.1 hR.2.2 h1 ?_
  have e1 : (if 0 ≤ iI x then iI x else 0 - iI x) = iI (if 0 ≤ x then x else -x) := by
    have h2 : (0 ≤ iI x) ↔ 0 ≤ x := iI_le (a := 0) (by omega) (by omega)
    by_cases h3 : 0 ≤ x
    · rw [if_pos (h2.mpr h3), if_pos h3]
    · rw [if_neg (fun z => h3 (h2.mp z)), if_neg h3, show (0 : Int32) = iI 0 from rfl, iI_sub, Int.zero_sub]
  rw [e1]
  exact kk D cI cL ad ad0 n0 A p e s m args below meth c H locs ls hd hB hWd hag hn hA hS hl
theorem Z_absL (k : Nat) {idx : Nat} {x : Int} (h : X.I[k]? = some (pc, .invokestatic idx, 3, n)) (hlk : Cond.methodLink X.M.1.cls idx Lib.MathLoose.abs_long.x ∈ zTB) (hs : Cond.static Lib.MathLoose.abs_long.x ∈ zTB) (hi : Cond.initialized "java/lang/Math" ∈ zTB) (hcd : Cond.code Lib.MathLoose.abs_long.x Lib.MathLoose.abs_long.code 2 (some .long) ∈ zTB) (hx : -9223372036854775808 < x ∧ x ≤ 9223372036854775807) (hcs : (st.map fun v => v.category).sum + 13 ≤ X.R.locals) (hR : 1 ≤ X.R.frames ∧ kc ≤ X.R.cells ∧ ks ≤ X.R.slots) (kk : Z X kc ks mem n lv (.long (lI (if 0 ≤ x then x else -x)) :: st)) : Z X kc ks mem pc lv (.long (lI x) :: st) := by
  intro D cI cL ad ad0 n0 A p e s m args below meth c H locs ls hd hB hWd hag hn hA hS hl
  obtain ⟨h1, rfl⟩ := zI_dec hd h
  have hts := hB.2.2.2.2.2.2.2.1
  refine va_mabs_long hB.1 hB.2.1 (hB.2.2.1.trans (zlv_size hl).symm) hB.2.2.2.2.2.1 (hts _ hlk) (hts _ hs) (hts _ hi) (hts _ hcd) hR.1 (by rw [zcat_sum]; exact hcs) hR.2.1 hR.2.2 h1 ?_
  have e1 : (if 0 < lI x then lI x else -lI x) = lI (if 0 ≤ x then x else -x) := by
    have h2 : (0 < lI x) ↔ 0 < x := lI_lt (a := 0) (by omega) (by omega)
    by_cases h3 : 0 < x
    · rw [if_pos (h2.mpr h3), if_pos (by omega)]
    · rw [if_neg (fun z => h3 (h2.mp z)), lI_neg]
      split
      · congr 1
        omega
      · rfl
  rw [e1]
  exact kk D cI cL ad ad0 n0 A p e s m args below meth c H locs ls hd hB hWd hag hn hA hS hl
theorem Z_maxI (k : Nat) {idx : Nat} {x y : Int} (h : X.I[k]? = some (pc, .invokestatic idx, 3, n)) (hlk : Cond.methodLink X.M.1.cls idx Lib.Math.max.name ∈ zTB) (hs : Cond.static Lib.Math.max.name ∈ zTB) (hi : Cond.initialized "java/lang/Math" ∈ zTB) (hcd : Cond.code Lib.Math.max.name Lib.Math.max.code 2 (some .int) ∈ zTB) (hx : inI x) (hy : inI y) (hcs : (st.map fun v => v.category).sum + 13 ≤ X.R.locals) (hR : 1 ≤ X.R.frames ∧ kc ≤ X.R.cells ∧ ks ≤ X.R.slots) (kk : Z X kc ks mem n lv (.int (iI (if x < y then y else x)) :: st)) : Z X kc ks mem pc lv (.int (iI y) :: .int (iI x) :: st) := by
  intro D cI cL ad ad0 n0 A p e s m args below meth c H locs ls hd hB hWd hag hn hA hS hl
  obtain ⟨h1, rfl⟩ := zI_dec hd h
  have hts := hB.2.2.2.2.2.2.2.1
  refine va_mmax hB.1 hB.2.1 (hB.2.2.1.trans (zlv_size hl).symm) hB.2.2.2.2.2.1 (hts _ hlk) (hts _ hs) (hts _ hi) (hts _ hcd) hR.1 (by rw [zcat_sum]; exact hcs) hR.2.1 hR.2.2 h1 ?_
  have e1 : (if iI x < iI y then iI y else iI x) = iI (if x < y then y else x) := by
    simp only [iI_lt hx hy]
    split <;> rfl
  rw [e1]
  exact kk D cI cL ad ad0 n0 A p e s m args below meth c H locs ls hd hB hWd hag hn hA hS hl
theorem Z_minI (k : Nat) {idx : Nat} {x y : Int} (h : X.I[k]? = some (pc, .invokestatic idx, 3, n)) (hlk : Cond.methodLink X.M.1.cls idx Lib.Math.min.name ∈ zTB) (hs : Cond.static Lib.Math.min.name ∈ zTB) (hi : Cond.initialized "java/lang/Math" ∈ zTB) (hcd : Cond.code Lib.Math.min.name Lib.Math.min.code 2 (some .int) ∈ zTB) (hx : inI x) (hy : inI y) (hcs : (st.map fun v => v.category).sum + 13 ≤ X.R.locals) (hR : 1 ≤ X.R.frames ∧ kc ≤ X.R.cells ∧ ks ≤ X.R.slots) (kk : Z X kc ks mem n lv (.int (iI (if y < x then y else x)) :: st)) : Z X kc ks mem pc lv (.int (iI y) :: .int (iI x) :: st) := by
  intro D cI cL ad ad0 n0 A p e s m args below meth c H locs ls hd hB hWd hag hn hA hS hl
  obtain ⟨h1, rfl⟩ := zI_dec hd h
  have hts := hB.2.2.2.2.2.2.2.1
  refine va_mmin hB.1 hB.2.1 (hB.2.2.1.trans (zlv_size hl).symm) hB.2.2.2.2.2.1 (hts _ hlk) (hts _ hs) (hts _ hi) (hts _ hcd) hR.1 (by rw [zcat_sum]; exact hcs) hR.2.1 hR.2.2 h1 ?_
  have e1 : (if iI y < iI x then iI y else iI x) = iI (if y < x then y else x) := by
    simp only [iI_lt hy hx]
    split <;> rfl
  rw [e1]
  exact kk D cI cL ad ad0 n0 A p e s m args below meth c H locs ls hd hB hWd hag hn hA hS hl
end ZK
