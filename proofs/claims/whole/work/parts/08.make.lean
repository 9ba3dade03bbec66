/-! Math over longs, System.arraycopy, Object's constructor, new cells -/
section ZN
variable {X : zX} {kc ks : Nat} {mem : List zE} {pc n : Nat} {lv : List (Nat × Value)} {st : List Value}
theorem Z_maxL (k : Nat) {idx : Nat} {x y : Int} (h : X.I[k]? = some (pc, .invokestatic idx, 3, n)) (hlk : Cond.methodLink X.M.1.cls idx Lib.MathLoose.max_long.x ∈ zTB) (hs : Cond.static Lib.MathLoose.max_long.x ∈ zTB) (hi : Cond.initialized "java/lang/Math" ∈ zTB) (hcd : Cond.code Lib.MathLoose.max_long.x Lib.MathLoose.max_long.code 4 (some .long) ∈ zTB) (hx : inL x) (hy : inL y) (hcs : (st.map fun v => v.category).sum + 15 ≤ X.R.locals) (hR : 1 ≤ X.R.frames ∧ kc ≤ X.R.cells ∧ ks ≤ X.R.slots) (kk : Z X kc ks mem n lv (.long (lI (if x < y then y else x)) :: st)) : Z X kc ks mem pc lv (.long (lI y) :: .long (lI x) :: st) := by
  intro D cI cL ad ad0 n0 A p e s m args below meth c H locs ls hd hB hWd hag hn hA hS hl
  obtain ⟨h1, rfl⟩ := zI_dec hd h
  have hts := hB.2.2.2.2.2.2.2.1
  refine va_mmax_long hB.1 hB.2.1 (hB.2.2.1.trans (zlv_size hl).symm) hB.2.2.2.2.2.1 (hts _ hlk) (hts _ hs) (hts _ hi) (hts _ hcd) hR.1 (by rw [zcat_sum]; exact hcs) hR.2.1 hR.2.2 h1 ?_
  have e1 : (if lI y < lI x then lI x else lI y) = lI (if x < y then y else x) := by
    simp only [lI_lt hy hx]
    split <;> split <;> first | rfl | (congr 1; omega)
  rw [e1]
  exact kk D cI cL ad ad0 n0 A p e s m args below meth c H locs ls hd hB hWd hag hn hA hS hl
theorem Z_minL (k : Nat) {idx : Nat} {x y : Int} (h : X.I[k]? = some (pc, .invokestatic idx, 3, n)) (hlk : Cond.methodLink X.M.1.cls idx Lib.MathLoose.min_long.x ∈ zTB) (hs : Cond.static Lib.MathLoose.min_long.x ∈ zTB) (hi : Cond.initialized "java/lang/Math" ∈ zTB) (hcd : Cond.code Lib.MathLoose.min_long.x Lib.MathLoose.min_long.code 4 (some .long) ∈ zTB) (hx : inL x) (hy : inL y) (hcs : (st.map fun v => v.category).sum + 15 ≤ X.R.locals) (hR : 1 ≤ X.R.frames ∧ kc ≤ X.R.cells ∧ ks ≤ X.R.slots) (kk : Z X kc ks mem n lv (.long (lI (if y < x then y else x)) :: st)) : Z X kc ks mem pc lv (.long (lI y) :: .long (lI x) :: st) := by
  intro D cI cL ad ad0 n0 A p e s m args below meth c H locs ls hd hB hWd hag hn hA hS hl
  obtain ⟨h1, rfl⟩ := zI_dec hd h
  have hts := hB.2.2.2.2.2.2.2.1
  refine va_mmin_long hB.1 hB.2.1 (hB.2.2.1.trans (zlv_size hl).symm) hB.2.2.2.2.2.1 (hts _ hlk) (hts _ hs) (hts _ hi) (hts _ hcd) hR.1 (by rw [zcat_sum]; exact hcs) hR.2.1 hR.2.2 h1 ?_
  have e1 : (if lI y < lI x then lI y else lI x) = lI (if y < x then y else x) := by
    simp only [lI_lt hy hx]
    split <;> rfl
  rw [e1]
  exact kk D cI cL ad ad0 n0 A p e s m args below meth c H locs ls hd hB hWd hag hn hA hS hl
/-- the first L entries of one row into another -/
def cpI (F G : Int → Int) (L : Int) : Int → Int := fun j => if 0 ≤ j ∧ j < L then F j else G j
theorem Z_copy (k : Nat) {idx q0 q1 N0 N1 : Nat} {F G : Int → Int} {L : Int} {mem' : List zE} (h : X.I[k]? = some (pc, .invokestatic idx, 3, n)) (hlk : Cond.methodLink X.M.1.cls idx arraycopyName ∈ zTB) (hnt : Cond.native arraycopyName ∈ zTB) (hs : Cond.static arraycopyName ∈ zTB) (hi : Cond.initialized "java/lang/System" ∈ zTB) (h0 : mem[q0]? = some (aI N0 F)) (h1 : mem[q1]? = some (aI N1 G)) (hL : 0 ≤ L ∧ L ≤ N0 ∧ L ≤ N1 ∧ L < 2147483648) (hfr : 1 ≤ X.R.frames) (hlo : (st.map fun v => v.category).sum + (nativeFrameWords "java/lang/System" "arraycopy" 5 + 11) ≤ X.R.locals) (hm : mem.set q1 (aI N1 (cpI F G L)) = mem') (kk : Z X kc ks mem' n lv st) : Z X kc ks mem pc lv (.int (iI L) :: .int (iI 0) :: .ref q1 :: .int (iI 0) :: .ref q0 :: st) := by
  intro D cI cL ad ad0 n0 A p e s m args below meth c H locs ls hd hB hWd hag hn hA hS hl
  obtain ⟨hdg, rfl⟩ := zI_dec hd h
  subst hm
  have hts := hB.2.2.2.2.2.2.2.1
  have hK := hB.2.2.2.2.2.2.2.2.2
  intro T hT XX
  obtain ⟨-, hc0⟩ := hWd.1 q0 _ h0
  obtain ⟨hAa, hc1⟩ := hWd.1 q1 _ h1
  have hc0 : H[ad q0]? = some (vp_cell cI (N0, .inl (fun j => iI (F (j : Int))))) := hc0
  have hc1 : H[ad q1]? = some (vp_cell cI (N1, .inl (fun j => iI (G (j : Int))))) := hc1
  obtain ⟨-, k0, hk0, cm0, hkk0⟩ := (hK.2 0 _ rfl).1 N0 (fun j => .int (iI (F (j : Int))))
  obtain ⟨-, k1, hk1, cm1, hkk1⟩ := (hK.2 0 _ rfl).1 N1 (fun j => .int (iI (G (j : Int))))
  have hLn : (iI L).toNatClampNeg = L.toNat := by
    show (iI L).toInt.toNat = _
    rw [iI_t (by omega)]
  have hLt : (iI L).toInt = L := iI_t (by omega)
  have h0n : (iI 0).toNatClampNeg = 0 := rfl
  have h0t : (iI 0).toInt = 0 := rfl
  have hnn : ¬ iI L < 0 := fun z => by have := (iI_lt (b := 0) (by omega) (by omega)).mp z; omega
  have h00 : ¬ iI 0 < 0 := by decide
  obtain ⟨vm', X', step⟩ := XX.arraycopy hB.1 hB.2.2.2.2.2.1 (hts _ hlk) (hts _ hnt) (hts _ hs) (hts _ hi) (src := ad q0) (dst := ad q1) (cs := vp_cell cI (N0, .inl (fun j => iI (F (j : Int))))) (cd := vp_cell cI (N1, .inl (fun j => iI (G (j : Int))))) (srcPos := iI 0) (destPos := iI 0) (n := iI L) (by rw [hT]; exact hc0) (by rw [hT]; exact hc1)
    (fun _ h => by cases h) (fun _ h => by cases h) (fun h => by cases h) (fun h => by cases h) hk0 hk1 hkk0 hkk1 (by simp [refKind]) h00 h00 hnn
    (by rw [hLt, h0t]; show ¬ _ > ((arrV cI N0 (fun j => .int (iI (F (j : Int))))).slots.size : Int); rw [arrV_size]; omega)
    (by rw [hLt, h0t]; show ¬ _ > ((arrV cI N1 (fun j => .int (iI (G (j : Int))))).slots.size : Int); rw [arrV_size]; omega)
    (fun vm₁ _ i hi => by
      have e : (vp_cell cI (N0, .inl (fun j => iI (F (j : Int))))).slots.getD ((iI 0).toNatClampNeg + i) .null = .int (iI (F (i : Int))) := by
        show (arrV cI N0 (fun j => .int (iI (F (j : Int))))).slots.getD _ _ = _
        rw [Array.getD_eq_getD_getElem?, h0n, Nat.zero_add, arrV_read _ _ (by rw [hLn] at hi; omega)]
        rfl
      refine ⟨?_, ?_⟩
      · rw [e]
        rfl
      · rw [e]
        exact trivial)
    (g := F0 m pc ls (.int (iI L) :: .int (iI 0) :: .ref (ad q1) :: .int (iI 0) :: .ref (ad q0) :: st.map (zv ad))) rfl (by rw [hB.2.2.1]; exact zlv_size hl) (rest := st.map (zv ad)) rfl (by rw [hB.2.1]; exact hdg) hfr (by show 2 * 0 + _ + _ ≤ _; rw [zcat_sum]; omega)
  have e1 : copied (vp_cell cI (N0, .inl (fun j => iI (F (j : Int))))) (vp_cell cI (N1, .inl (fun j => iI (G (j : Int))))) (iI 0) (iI 0) (iI L) = vp_cell cI (N1, .inl (fun j => iI (cpI F G L (j : Int)))) := by
    refine (va_copied (fun z => .int z) cI cI (fun j => iI (F (j : Int))) (fun j => iI (G (j : Int))) (n0 := N0) (by rw [h0n, hLn]; omega)).trans ?_
    rw [h0n, hLn, vp_cell_i]
    congr 1
    funext j
    show Value.int (va_cpy _ _ 0 0 L.toNat j) = Value.int (iI (cpI F G L (j : Int)))
    unfold va_cpy cpI
    by_cases hj : j < L.toNat
    · rw [if_pos ⟨Nat.zero_le _, by omega⟩, if_pos ⟨by omega, by omega⟩, Nat.sub_zero, Nat.zero_add]
    · rw [if_neg (fun z => hj (by omega)), if_neg (fun z => hj (by omega))]
  rw [e1] at X' step
  have hlt : ad q1 < H.size := (Array.getElem?_eq_some_iff.mp hc1).1
  have hheap : ((T.setVm vm').setCell (ad q1) (vp_cell cI (N1, .inl (fun j => iI (cpI F G L (j : Int)))))).heap = H.setIfInBounds (ad q1) (vp_cell cI (N1, .inl (fun j => iI (cpI F G L (j : Int))))) := by rw [← hT]; rfl
  have oq : ∀ q : Nat, q ≠ ad q1 → (H.setIfInBounds (ad q1) (vp_cell cI (N1, .inl (fun j => iI (cpI F G L (j : Int))))))[q]? = H[q]? := fun q hq => by simp [Array.getElem?_setIfInBounds, Ne.symm hq]
  obtain ⟨t, a1, b1⟩ := kk D cI cL ad ad0 n0 A p e s m args below meth c _ _ ls hd hB (hWd.set h1 rfl ⟨hAa, (show (H.setIfInBounds (ad q1) _)[ad q1]? = some _ by simp [Array.getElem?_setIfInBounds, hlt])⟩ rfl (by simp) oq) hag (by simpa using hn) hA ⟨by simp; exact hS.1, fun q g1 g2 => by
      rw [oq q (fun e => g2 (by rw [e]; exact hAa))]
      exact hS.2.1 q g1 g2, fun q hq => by
      rcases List.mem_append.mp hq with h | h
      · exact hS.2.2 q h
      · obtain ⟨z, -, hz⟩ := List.mem_map.mp h
        rw [← hz]
        exact hAa⟩ hl _ hheap X'
  exact ⟨t, step t a1, b1⟩
theorem Z_objI (k : Nat) {idx q : Nat} (h : X.I[k]? = some (pc, .invokespecial idx, 3, n)) (hlk : Cond.methodLink X.M.1.cls idx Lib.objectInit ∈ zTB) (hi : Cond.instanceMethod Lib.objectInit ∈ zTB) (hcd : Cond.code Lib.objectInit ⟨#[0xb1]⟩ 1 none ∈ zTB) (hfr : 1 ≤ X.R.frames) (hlo : (st.map fun v => v.category).sum + 12 ≤ X.R.locals) (kk : Z X kc ks mem n lv st) : Z X kc ks mem pc lv (.ref q :: st) := by
  intro D cI cL ad ad0 n0 A p e s m args below meth c H locs ls hd hB hWd hag hn hA hS hl
  obtain ⟨h1, rfl⟩ := zI_dec hd h
  have hts := hB.2.2.2.2.2.2.2.1
  exact W.objInit hB.1 hB.2.1 hB.2.2.2.2.2.1 (hts _ hlk) (hts _ hi) (hts _ hcd) rfl ((zlv_size hl).trans hB.2.2.1.symm) rfl h1 hfr (by show 2 * 0 + _ + 12 ≤ _; rw [zcat_sum]; omega) (kk D cI cL ad ad0 n0 A p e s m args below meth c H locs ls hd hB hWd hag hn hA hS hl)
/-- references that are known -/
def zsv (n : Nat) : Value → Bool
  | .ref i => Nat.blt i n
  | _ => true
def zsE (n : Nat) : zE → Bool
  | .inl o => o.2.all (zsv n)
  | .inr (.inl _) => true
  | .inr (.inr (.inl _)) => true
  | .inr (.inr (.inr (.inl _))) => true
  | .inr (.inr (.inr (.inr (.inl _)))) => true
  | .inr (.inr (.inr (.inr (.inr (.inl x))))) => Nat.blt x.2 n
  | .inr (.inr (.inr (.inr (.inr (.inr (.inl l)))))) => l.all (fun q => zsv n q.2.2.2)
  | .inr (.inr (.inr (.inr (.inr (.inr (.inr _)))))) => true
theorem zv_agree {f g : Nat → Nat} {n : Nat} (hfg : ∀ i, i < n → f i = g i) {v : Value} (h : zsv n v = true) : zv f v = zv g v := by
  cases v with
  | ref i => exact congrArg Value.ref (hfg i (Nat.blt_eq.mp h))
  | _ => rfl
theorem zmap_agree {f g : Nat → Nat} {n : Nat} (hfg : ∀ i, i < n → f i = g i) {l : List Value} (h : l.all (zsv n) = true) : l.map (zv f) = l.map (zv g) :=
  List.map_congr_left (fun v hv => zv_agree hfg (List.all_eq_true.mp h v hv))
theorem zat_agree {D : va_G} {cI cL : ClassId} {f g : Nat → Nat} {n : Nat} (hfg : ∀ i, i < n → f i = g i) {A : Nat → Prop} {U : State} {H : Heap} {a : Nat} {e : zE} (h : zsE n e = true) (hz : zat D cI cL f A U H a e) : zat D cI cL g A U H a e := by
  rcases e with o | x | x | x | x | x | x | x
  · obtain ⟨h0, r, h1, h2⟩ := hz
    exact ⟨h0, r, h1, by rw [← zmap_agree hfg h]; exact h2⟩
  · exact hz
  · exact hz
  · exact hz
  · exact hz
  · exact ⟨hz.1, hz.2.1, hz.2.2.1, by have := hfg x.2 (Nat.blt_eq.mp h); rw [← this]; exact hz.2.2.2⟩
  · exact ⟨fun q hq => by rw [← zv_agree hfg (List.all_eq_true.mp h q hq)]; exact hz.1 q hq, hz.2⟩
  · exact hz
/-- a cell more -/
theorem zW.push {D : va_G} {cI cL : ClassId} {ad : Nat → Nat} {A : Nat → Prop} {U : State} {H H1 : Heap} {mem : List zE} {e1 : zE} (h : zW D cI cL ad A U H mem) (hsc : mem.all (zsE mem.length) = true) (hz : H.size ≤ H1.size) (oq : ∀ q : Nat, q < H.size → H1[q]? = H[q]?) {a : Nat} (ha : a = H.size) (he : zat D cI cL (fun i => if i = mem.length then a else ad i) A U H1 a e1) : zW D cI cL (fun i => if i = mem.length then a else ad i) A U H1 (mem ++ [e1]) := by
  have key : ∀ (k : Nat) (x : zE), (mem ++ [e1])[k]? = some x → (k < mem.length ∧ mem[k]? = some x) ∨ (k = mem.length ∧ x = e1) := by
    intro k x hk
    by_cases hl : k < mem.length
    · rw [List.getElem?_append_left hl] at hk
      exact Or.inl ⟨hl, hk⟩
    · rw [List.getElem?_append_right (by omega)] at hk
      have hz : k - mem.length < 1 := (List.getElem?_eq_some_iff.mp hk).1
      have hk0 : k = mem.length := by omega
      subst hk0
      rw [Nat.sub_self] at hk
      cases hk
      exact Or.inr ⟨rfl, rfl⟩
  have hag : ∀ i, i < mem.length → ad i = (fun i => if i = mem.length then a else ad i) i := fun i hi => by
    show ad i = if i = mem.length then a else ad i
    rw [if_neg (by omega)]
  refine ⟨fun k x hx => ?_, fun i j x y hi hj hxr hyr hxy => ?_⟩
  · rcases key k x hx with ⟨hl, hx0⟩ | ⟨rfl, rfl⟩
    · have h0 := h.1 k x hx0
      rw [← hag k hl]
      exact zat_agree hag (List.all_eq_true.mp hsc x (List.mem_of_getElem? hx0)) (zat_kept h0 hz (fun q hq _ => oq q hq) (fun _ => oq _ (zat_lt h0)))
    · show zat _ _ _ _ _ _ _ (if mem.length = mem.length then a else _) _
      rw [if_pos rfl]
      exact he
  · rcases key i x hi with ⟨hl, hx0⟩ | ⟨rfl, rfl⟩ <;> rcases key j y hj with ⟨hl2, hy0⟩ | ⟨rfl, rfl⟩
    · rw [← hag i hl, ← hag j hl2] at hxy
      exact h.2 i j x y hx0 hy0 hxr hyr hxy
    · exfalso
      rw [← hag i hl] at hxy
      have hxy : ad i = if mem.length = mem.length then a else ad mem.length := hxy
      rw [if_pos rfl, ha] at hxy
      have := zat_lt (h.1 i x hx0)
      omega
    · exfalso
      rw [← hag j hl2] at hxy
      have hxy : (if mem.length = mem.length then a else ad mem.length) = ad j := hxy
      rw [if_pos rfl, ha] at hxy
      have := zat_lt (h.1 j y hy0)
      omega
    · rfl
theorem zAg.push {n0 : Nat} {ad ad0 : Nat → Nat} {L a : Nat} (h : zAg true n0 ad ad0) (hn : n0 ≤ L) : zAg true n0 (fun i => if i = L then a else ad i) ad0 := by
  show ∀ i, i < n0 → (if i = L then a else ad i) = ad0 i
  intro i hi
  rw [if_neg (by omega)]
  exact h.at i hi
/-- a new object -/
theorem Z_new (k : Nat) {idx ci : Nat} {C : String} {T : u_T} {N : Nat} {ty : Nat → FieldType} {fs : List Value} (h : X.I[k]? = some (pc, .new idx, 3, n)) (hal : X.al = true) (hck : zCK ci C T N ty) (hcl : Cond.classLink X.M.1.cls idx C ∈ zTB) (hin : Cond.instantiable C N ∈ zTB) (hii : Cond.initialized C ∈ zTB) (hfs : ∀ j, j < N → defaultValue (ty j) = vp_V fs j) (hfs2 : ∀ ad, fs.map (zv ad) = fs) (hsm : mem.all (zsE mem.length) = true) (hsl : lv.all (fun q => zsv mem.length q.2) = true) (hss : st.all (zsv mem.length) = true) (hR : kc + 1 ≤ X.R.cells ∧ ks + N ≤ X.R.slots) (kk : Z X (kc + 1) (ks + N) (mem ++ [zO ci fs]) n lv (.ref mem.length :: st)) : Z X kc ks mem pc lv st := by
  intro D cI cL ad ad0 n0 A p e s m args below meth c H locs ls hd hB hWd hag hn hA hS hl
  obtain ⟨h1, rfl⟩ := zI_dec hd h
  have hts := hB.2.2.2.2.2.2.2.1
  have hK := hB.2.2.2.2.2.2.2.2.2
  obtain ⟨c1, c2, c3, c4⟩ := hck
  have hKn := hK.1 ci _ c1
  refine W.newcK hB.1 hB.2.1 hB.2.2.2.2.2.1 (hts _ hcl) (hts _ hin) (hts _ hii) rfl h1 hR.1 hR.2 hKn.2.1 rfl fun H1 kC hkC e1 z1 o1 => ?_
  have hgo : ∀ i, i < mem.length → ad i = (fun i => if i = mem.length then H.size else ad i) i := fun i hi => by
    show ad i = if i = mem.length then H.size else ad i
    rw [if_neg (by omega)]
  have hl2 : lv.map (zq ad) = lv.map (zq (fun i => if i = mem.length then H.size else ad i)) := List.map_congr_left (fun q hq => by
    show (q.1, _) = (q.1, _)
    rw [zv_agree hgo (List.all_eq_true.mp hsl q hq)])
  have hag2 : zAg X.al n0 (fun i => if i = mem.length then H.size else ad i) ad0 := by rw [hal] at hag ⊢; exact zAg.push hag hn
  have hgoal := kk D cI cL (fun i => if i = mem.length then H.size else ad i) ad0 n0 A p e s m args below meth c H1 locs ls hd hB (zW.push hWd hsm (by omega) o1 rfl ⟨hA _ hS.1, _, c1, by rw [hfs2]; exact (u_born ty hts c2 hKn hkC e1 c3).to hfs⟩) hag2 (by simp; omega) hA ⟨Nat.le_trans hS.1 (by omega), fun x g1 g2 => (o1 x (Nat.lt_of_lt_of_le g1 hS.1)).trans (hS.2.1 x g1 g2), hS.2.2⟩ (by rw [← hl2]; exact hl)
  rw [List.map_cons, ← zmap_agree hgo hss] at hgoal
  have e9 : zv (fun i => if i = mem.length then H.size else ad i) (.ref mem.length) = .ref H.size := congrArg Value.ref (if_pos rfl)
  rw [e9] at hgoal
  exact hgoal
/-- a new row of ints, of longs -/
theorem Z_newI (k : Nat) {N : Nat} (h : X.I[k]? = some (pc, .newarray .int, 2, n)) (hal : X.al = true) (hcl : Cond.arrayClass .int ∈ zTB) (hN : N ≤ 1000) (hsm : mem.all (zsE mem.length) = true) (hsl : lv.all (fun q => zsv mem.length q.2) = true) (hss : st.all (zsv mem.length) = true) (hR : kc + 1 ≤ X.R.cells ∧ ks + N ≤ X.R.slots) (kk : Z X (kc + 1) (ks + N) (mem ++ [aI N (fun _ => 0)]) n lv (.ref mem.length :: st)) : Z X kc ks mem pc lv (.int (iI (N : Int)) :: st) := by
  intro D cI cL ad ad0 n0 A p e s m args below meth c H locs ls hd hB hWd hag hn hA hS hl
  obtain ⟨h1, rfl⟩ := zI_dec hd h
  have hts := hB.2.2.2.2.2.2.2.1
  have hK := hB.2.2.2.2.2.2.2.2.2
  refine va_newaK (atype := .int) hB.1 hB.2.1 (hts _ hcl) rfl h1 rfl (N := N) (fun z => by have := (iI_lt (a := (N : Int)) (b := 0) (by omega) (by omega)).mp z; omega) (by show (iI (N : Int)).toInt.toNat = N; rw [iI_t (by omega)]; omega) (by show N * 4 ≤ _; omega) hR.1 hR.2 rfl fun H1 cA e1 z1 o1 hAr hNm => ?_
  have hcA : cA = cI := Option.some.inj (hNm.symm.trans (hK.2 0 _ rfl).2)
  subst hcA
  have hgo : ∀ i, i < mem.length → ad i = (fun i => if i = mem.length then H.size else ad i) i := fun i hi => by
    show ad i = if i = mem.length then H.size else ad i
    rw [if_neg (by omega)]
  have hl2 : lv.map (zq ad) = lv.map (zq (fun i => if i = mem.length then H.size else ad i)) := List.map_congr_left (fun q hq => by
    show (q.1, _) = (q.1, _)
    rw [zv_agree hgo (List.all_eq_true.mp hsl q hq)])
  have hag2 : zAg X.al n0 (fun i => if i = mem.length then H.size else ad i) ad0 := by rw [hal] at hag ⊢; exact zAg.push hag hn
  have hgoal := kk D cA cL (fun i => if i = mem.length then H.size else ad i) ad0 n0 A p e s m args below meth c H1 locs ls hd hB (zW.push hWd hsm (by omega) o1 rfl ⟨hA _ hS.1, e1⟩) hag2 (by simp; omega) hA ⟨Nat.le_trans hS.1 (by omega), fun x g1 g2 => (o1 x (Nat.lt_of_lt_of_le g1 hS.1)).trans (hS.2.1 x g1 g2), hS.2.2⟩ (by rw [← hl2]; exact hl)
  rw [List.map_cons, ← zmap_agree hgo hss] at hgoal
  have e9 : zv (fun i => if i = mem.length then H.size else ad i) (.ref mem.length) = .ref H.size := congrArg Value.ref (if_pos rfl)
  rw [e9] at hgoal
  exact hgoal
theorem Z_newL (k : Nat) {N : Nat} (h : X.I[k]? = some (pc, .newarray .long, 2, n)) (hal : X.al = true) (hcl : Cond.arrayClass .long ∈ zTB) (hN : N ≤ 1000) (hsm : mem.all (zsE mem.length) = true) (hsl : lv.all (fun q => zsv mem.length q.2) = true) (hss : st.all (zsv mem.length) = true) (hR : kc + 1 ≤ X.R.cells ∧ ks + N ≤ X.R.slots) (kk : Z X (kc + 1) (ks + N) (mem ++ [aL N (fun _ => 0)]) n lv (.ref mem.length :: st)) : Z X kc ks mem pc lv (.int (iI (N : Int)) :: st) := by
  intro D cI cL ad ad0 n0 A p e s m args below meth c H locs ls hd hB hWd hag hn hA hS hl
  obtain ⟨h1, rfl⟩ := zI_dec hd h
  have hts := hB.2.2.2.2.2.2.2.1
  have hK := hB.2.2.2.2.2.2.2.2.2
  refine va_newaK (atype := .long) hB.1 hB.2.1 (hts _ hcl) rfl h1 rfl (N := N) (fun z => by have := (iI_lt (a := (N : Int)) (b := 0) (by omega) (by omega)).mp z; omega) (by show (iI (N : Int)).toInt.toNat = N; rw [iI_t (by omega)]; omega) (by show N * 8 ≤ _; omega) hR.1 hR.2 rfl fun H1 cA e1 z1 o1 hAr hNm => ?_
  have hcA : cA = cL := Option.some.inj (hNm.symm.trans (hK.2 1 _ rfl).2)
  subst hcA
  have hgo : ∀ i, i < mem.length → ad i = (fun i => if i = mem.length then H.size else ad i) i := fun i hi => by
    show ad i = if i = mem.length then H.size else ad i
    rw [if_neg (by omega)]
  have hl2 : lv.map (zq ad) = lv.map (zq (fun i => if i = mem.length then H.size else ad i)) := List.map_congr_left (fun q hq => by
    show (q.1, _) = (q.1, _)
    rw [zv_agree hgo (List.all_eq_true.mp hsl q hq)])
  have hag2 : zAg X.al n0 (fun i => if i = mem.length then H.size else ad i) ad0 := by rw [hal] at hag ⊢; exact zAg.push hag hn
  have hgoal := kk D cI cA (fun i => if i = mem.length then H.size else ad i) ad0 n0 A p e s m args below meth c H1 locs ls hd hB (zW.push hWd hsm (by omega) o1 rfl ⟨hA _ hS.1, e1⟩) hag2 (by simp; omega) hA ⟨Nat.le_trans hS.1 (by omega), fun x g1 g2 => (o1 x (Nat.lt_of_lt_of_le g1 hS.1)).trans (hS.2.1 x g1 g2), hS.2.2⟩ (by rw [← hl2]; exact hl)
  rw [List.map_cons, ← zmap_agree hgo hss] at hgoal
  have e9 : zv (fun i => if i = mem.length then H.size else ad i) (.ref mem.length) = .ref H.size := congrArg Value.ref (if_pos rfl)
  rw [e9] at hgoal
  exact hgoal
end ZN
