/-! A SMALL MACHINE OVER THE KIT: worlds by number. A world is a list of cells; a reference is a cell's place in it; 'ad' says where each lies. Z: the method, at this instruction, with these locals, this stack and this world, comes to its end with Q. -/
abbrev zRo : Type := (Nat × (Nat → Int32)) ⊕ ((Nat × (Nat → Int32)) ⊕ ((Nat × Nat) ⊕ ((List (String × String × String × Value)) ⊕ Unit)))
abbrev zE : Type := (Nat × List Value) ⊕ ((Nat × (Nat → Int32)) ⊕ ((Nat × (Nat → Int64)) ⊕ zRo))
abbrev zO (c : Nat) (fs : List Value) : zE := .inl (c, fs)
abbrev zI (n : Nat) (f : Nat → Int32) : zE := .inr (.inl (n, f))
abbrev zL (n : Nat) (f : Nat → Int64) : zE := .inr (.inr (.inl (n, f)))
abbrev zR (n : Nat) (f : Nat → Int32) : zE := .inr (.inr (.inr (.inl (n, f))))
abbrev zRb (n : Nat) (f : Nat → Int32) : zE := .inr (.inr (.inr (.inr (.inl (n, f)))))
abbrev zS (k j : Nat) : zE := .inr (.inr (.inr (.inr (.inr (.inl (k, j))))))
abbrev zT (l : List (String × String × String × Value)) : zE := .inr (.inr (.inr (.inr (.inr (.inr (.inl l))))))
abbrev zU : zE := .inr (.inr (.inr (.inr (.inr (.inr (.inr ()))))))
def zrw : zE → Bool
  | .inl _ => true
  | .inr (.inl _) => true
  | .inr (.inr (.inl _)) => true
  | .inr (.inr (.inr _)) => false
def zv (ad : Nat → Nat) : Value → Value
  | .ref i => .ref (ad i)
  | v => v
def zq (ad : Nat → Nat) (q : Nat × Value) : Nat × Value := (q.1, zv ad q.2)
/-- the texts of the String constants, and their entries in the Reader's file -/
def zStr : List (String × Nat) := [("dwell", 98), ("line", 100), ("start", 102), ("stop", 104), ("cubic", 106), ("quintic", 108)]
def zat (D : va_G) (cI cL : ClassId) (ad : Nat → Nat) (A : Nat → Prop) (U : State) (H : Heap) (a : Nat) : zE → Prop
  | .inl o => A a ∧ ∃ r : vw_C, zCls[o.1]? = some r ∧ t_OB a (D.1 o.1) r.2.2 (D.2 o.1) H (vp_V (o.2.map (zv ad)))
  | .inr (.inl x) => A a ∧ H[a]? = some (vp_cell cI (x.1, .inl x.2))
  | .inr (.inr (.inl x)) => A a ∧ H[a]? = some (vp_cell cL (x.1, .inr (.inl x.2)))
  | .inr (.inr (.inr (.inl x))) => va_T .int a x.1 (fun j => .int (x.2 j)) A U H
  | .inr (.inr (.inr (.inr (.inl x)))) => va_T .byte a x.1 (fun j => .int (x.2 j)) A U H
  | .inr (.inr (.inr (.inr (.inr (.inl x))))) => (∀ st : String × Nat, zStr[x.1]? = some st → vk_R "CamPieces$Reader" st.2 st.1 a U) ∧ va_O "java/lang/String" a A U H ∧ va_OF "java/lang/String" "coder" "B" (.int 0) a A U H ∧ va_OF "java/lang/String" "value" "[B" (.ref (ad x.2)) a A U H
  | .inr (.inr (.inr (.inr (.inr (.inr (.inl l)))))) => (∀ q ∈ l, va_Z q.1 q.2.1 q.2.2.1 (zv ad q.2.2.2) A U H) ∧ a < H.size ∧ ¬ A a
  | .inr (.inr (.inr (.inr (.inr (.inr (.inr _)))))) => va_Zq "jdk/internal/util/Preconditions" "SIOOBE_FORMATTER" "Ljava/util/function/BiFunction;" A U H ∧ a < H.size ∧ ¬ A a
theorem zat_lt {D : va_G} {cI cL : ClassId} {ad : Nat → Nat} {A : Nat → Prop} {U : State} {H : Heap} {a : Nat} {e : zE} (h : zat D cI cL ad A U H a e) : a < H.size := by
  rcases e with o | x | x | x | x | x | x | x
  · obtain ⟨-, r, -, cell, h2, -⟩ := h
    exact (Array.getElem?_eq_some_iff.mp h2).1
  · exact (Array.getElem?_eq_some_iff.mp h.2).1
  · exact (Array.getElem?_eq_some_iff.mp h.2).1
  · obtain ⟨cell, h1, -⟩ := h
    exact (Array.getElem?_eq_some_iff.mp h1).1
  · obtain ⟨cell, h1, -⟩ := h
    exact (Array.getElem?_eq_some_iff.mp h1).1
  · obtain ⟨-, ⟨cell, h1, -⟩, -⟩ := h
    exact (Array.getElem?_eq_some_iff.mp h1).1
  · exact h.2.1
  · exact h.2.1
theorem zat_in {D : va_G} {cI cL : ClassId} {ad : Nat → Nat} {A : Nat → Prop} {U : State} {H : Heap} {a : Nat} {e : zE} (h : zat D cI cL ad A U H a e) (he : zrw e = true) : A a := by
  rcases e with o | x | x | x | x | x | x | x
  · exact h.1
  · exact h.1
  · exact h.1
  all_goals (cases he)
theorem zat_out {D : va_G} {cI cL : ClassId} {ad : Nat → Nat} {A : Nat → Prop} {U : State} {H : Heap} {a : Nat} {e : zE} (h : zat D cI cL ad A U H a e) (he : zrw e = false) : ¬ A a := by
  rcases e with o | x | x | x | x | x | x | x
  · cases he
  · cases he
  · cases he
  · exact h.out
  · exact h.out
  · obtain ⟨-, ⟨cell, h1, h2, h3, h4⟩, -⟩ := h
    exact h4
  · exact h.2.2
  · exact h.2.2
/-- the world goes on through a heap that keeps what it doesn't own -/
theorem zat_kept {D : va_G} {cI cL : ClassId} {ad : Nat → Nat} {A : Nat → Prop} {U : State} {H H1 : Heap} {a : Nat} {e : zE} (h : zat D cI cL ad A U H a e) (hz : H.size ≤ H1.size) (hq : ∀ q : Nat, q < H.size → ¬ A q → H1[q]? = H[q]?) (ha : zrw e = true → H1[a]? = H[a]?) : zat D cI cL ad A U H1 a e := by
  rcases e with o | x | x | x | x | x | x | x
  · obtain ⟨h0, r, h1, h2⟩ := h
    exact ⟨h0, r, h1, h2.kept (ha rfl)⟩
  · exact ⟨h.1, (ha rfl).trans h.2⟩
  · exact ⟨h.1, (ha rfl).trans h.2⟩
  · exact va_T.kept h hq
  · exact va_T.kept h hq
  · exact ⟨h.1, h.2.1.kept hq, h.2.2.1.kept hq, h.2.2.2.kept hq⟩
  · exact ⟨fun q hq2 => (h.1 q hq2).kept hq, Nat.lt_of_lt_of_le h.2.1 hz, h.2.2⟩
  · exact ⟨h.1.kept hq, Nat.lt_of_lt_of_le h.2.1 hz, h.2.2⟩
theorem zat_moved {D : va_G} {cI cL : ClassId} {ad : Nat → Nat} {A : Nat → Prop} {u U : State} {H : Heap} {a : Nat} {e : zE} (hW : u.WarmedH U.vm) (h : zat D cI cL ad A u H a e) : zat D cI cL ad A U H a e := by
  rcases e with o | x | x | x | x | x | x | x
  · exact h
  · exact h
  · exact h
  · exact va_T.moved hW.alike h
  · exact va_T.moved hW.alike h
  · exact ⟨fun st hst => (h.1 st hst).warm hW, h.2.1.moved hW.alike, h.2.2.1.moved hW.alike, h.2.2.2.moved hW.alike⟩
  · exact ⟨fun q hq2 => (h.1 q hq2).moved hW.alike, h.2⟩
  · exact ⟨h.1.moved hW.alike, h.2⟩
/-- the same tables, another state -/
theorem zat_same {D : va_G} {cI cL : ClassId} {ad : Nat → Nat} {A : Nat → Prop} {u U : State} {H : Heap} {a : Nat} {e : zE} (hvm : u.vm = U.vm) (h : zat D cI cL ad A u H a e) : zat D cI cL ad A U H a e := by
  have hA : u.vm.Alike U.vm := by rw [← hvm]; exact Vm.Alike.refl u.vm
  rcases e with o | x | x | x | x | x | x | x
  · exact h
  · exact h
  · exact h
  · exact va_T.moved hA h
  · exact va_T.moved hA h
  · exact ⟨fun st hst => (h.1 st hst).same hvm.symm, h.2.1.moved hA, h.2.2.1.moved hA, h.2.2.2.moved hA⟩
  · exact ⟨fun q hq2 => (h.1 q hq2).moved hA, h.2⟩
  · exact ⟨h.1.moved hA, h.2⟩
/-- another set of the cells that may be written -/
theorem zat_area {D : va_G} {cI cL : ClassId} {ad : Nat → Nat} {A B : Nat → Prop} {U : State} {H : Heap} {a : Nat} {e : zE} (h : zat D cI cL ad A U H a e) (hr : ∀ q, q < H.size → ¬ A q → ¬ B q) (ha : zrw e = true → B a) : zat D cI cL ad B U H a e := by
  rcases e with o | x | x | x | x | x | x | x
  · exact ⟨ha rfl, h.2⟩
  · exact ⟨ha rfl, h.2⟩
  · exact ⟨ha rfl, h.2⟩
  · obtain ⟨cell, h1, h2, h3, h4, h5, h6, h7⟩ := h
    exact ⟨cell, h1, h2, h3, h4, h5, h6, hr _ (Array.getElem?_eq_some_iff.mp h1).1 h7⟩
  · obtain ⟨cell, h1, h2, h3, h4, h5, h6, h7⟩ := h
    exact ⟨cell, h1, h2, h3, h4, h5, h6, hr _ (Array.getElem?_eq_some_iff.mp h1).1 h7⟩
  · obtain ⟨h0, ⟨c1, p1, p2, p3, p4⟩, ⟨cf, k, i, f, c2, q1, q2, q3, q4, q5, q6⟩, ⟨cf', k', i', f', c3, r1, r2, r3, r4, r5, r6⟩⟩ := h
    exact ⟨h0, ⟨c1, p1, p2, p3, hr _ (Array.getElem?_eq_some_iff.mp p1).1 p4⟩, ⟨cf, k, i, f, c2, q1, q2, q3, q4, q5, hr _ (Array.getElem?_eq_some_iff.mp q3).1 q6⟩, ⟨cf', k', i', f', c3, r1, r2, r3, r4, r5, hr _ (Array.getElem?_eq_some_iff.mp r3).1 r6⟩⟩
  · refine ⟨fun q hq2 => ?_, h.2.1, hr _ h.2.1 h.2.2⟩
    obtain ⟨cf, kf, fi, f, a', cell, g1, g2, g3, g4, g5, g6, g7, g8⟩ := h.1 q hq2
    exact ⟨cf, kf, fi, f, a', cell, g1, g2, g3, g4, g5, g6, g7, hr _ (Array.getElem?_eq_some_iff.mp g5).1 g8⟩
  · refine ⟨?_, h.2.1, hr _ h.2.1 h.2.2⟩
    rcases h.1 with ⟨cf, kf, fi, f, a', cell, g1, g2, g3, g4, g5, g6, g7, g8⟩ | ⟨t, cf, kf, fi, f, a', cell, g1, g2, g3, g4, g5, g6, g7, g8⟩
    · exact Or.inl ⟨cf, kf, fi, f, a', cell, g1, g2, g3, g4, g5, g6, g7, hr _ (Array.getElem?_eq_some_iff.mp g5).1 g8⟩
    · exact Or.inr ⟨t, cf, kf, fi, f, a', cell, g1, g2, g3, g4, g5, g6, g7, hr _ (Array.getElem?_eq_some_iff.mp g5).1 g8⟩
def zW (D : va_G) (cI cL : ClassId) (ad : Nat → Nat) (A : Nat → Prop) (U : State) (H : Heap) (mem : List zE) : Prop :=
  (∀ (k : Nat) (e : zE), mem[k]? = some e → zat D cI cL ad A U H (ad k) e) ∧ ∀ (i j : Nat) (x y : zE), mem[i]? = some x → mem[j]? = some y → zrw x = true → zrw y = true → ad i = ad j → i = j
theorem zW.set {D : va_G} {cI cL : ClassId} {ad : Nat → Nat} {A : Nat → Prop} {U : State} {H H1 : Heap} {mem : List zE} {k : Nat} {e0 e1 : zE} (h : zW D cI cL ad A U H mem) (hk : mem[k]? = some e0) (h0 : zrw e0 = true) (he : zat D cI cL ad A U H1 (ad k) e1) (h1 : zrw e1 = true) (z : H1.size = H.size) (oq : ∀ q : Nat, q ≠ ad k → H1[q]? = H[q]?) : zW D cI cL ad A U H1 (mem.set k e1) := by
  have hl := (List.getElem?_eq_some_iff.mp hk).1
  have hA : A (ad k) := zat_in (h.1 k e0 hk) h0
  refine ⟨fun j e hj => ?_, fun i j x y hi hj hx hy hxy => ?_⟩
  · by_cases hjk : j = k
    · subst hjk
      rw [List.getElem?_set_self hl] at hj
      cases hj
      exact he
    · rw [List.getElem?_set_ne (Ne.symm hjk)] at hj
      refine zat_kept (h.1 j e hj) (by omega) (fun q _ hq => oq q (fun z => hq (z ▸ hA))) (fun hr => oq _ (fun z => hjk (h.2 j k e e0 hj hk hr h0 z)))
  · have key : ∀ (n : Nat) (w : zE), (mem.set k e1)[n]? = some w → ∃ w0, mem[n]? = some w0 ∧ (zrw w = true → zrw w0 = true) := by
      intro n w hn
      by_cases hnk : n = k
      · subst hnk
        exact ⟨e0, hk, fun _ => h0⟩
      · rw [List.getElem?_set_ne (Ne.symm hnk)] at hn
        exact ⟨w, hn, fun q => q⟩
    obtain ⟨x0, a1, a2⟩ := key i x hi
    obtain ⟨y0, b1, b2⟩ := key j y hj
    exact h.2 i j x0 y0 a1 b1 (a2 hx) (b2 hy) hxy
theorem zW.moved {D : va_G} {cI cL : ClassId} {ad : Nat → Nat} {A : Nat → Prop} {u U : State} {H : Heap} {mem : List zE} (hW : u.WarmedH U.vm) (h : zW D cI cL ad A u H mem) : zW D cI cL ad A U H mem := ⟨fun k e hk => zat_moved hW (h.1 k e hk), h.2⟩
theorem zW.same {D : va_G} {cI cL : ClassId} {ad : Nat → Nat} {A : Nat → Prop} {u U : State} {H : Heap} {mem : List zE} (hvm : u.vm = U.vm) (h : zW D cI cL ad A u H mem) : zW D cI cL ad A U H mem := ⟨fun k e hk => zat_same hvm (h.1 k e hk), h.2⟩
/-- a method: its name, its bytes, how many locals, its answer's type, its instructions (place, instruction, length, next place) -/
abbrev zM : Type := MethodName × ByteArray × Nat × Option FieldType × List (Nat × Instr × Nat × Nat)
/-- launch, method, room, cells and slots that it may make, whether it makes any, what holds at its end -/
abbrev zX : Type := Launch × zM × Room × (Nat × Nat) × Bool × (Option Value → List zE → Prop)
abbrev zX.M (X : zX) : zM := X.2.1
abbrev zX.R (X : zX) : Room := X.2.2.1
abbrev zX.mc (X : zX) : Nat := X.2.2.2.1.1
abbrev zX.ms (X : zX) : Nat := X.2.2.2.1.2
abbrev zX.al (X : zX) : Bool := X.2.2.2.2.1
abbrev zX.Q (X : zX) : Option Value → List zE → Prop := X.2.2.2.2.2
abbrev zX.I (X : zX) : List (Nat × Instr × Nat × Nat) := X.2.1.2.2.2.2
def zDec (M : zM) : Prop := ∀ q ∈ M.2.2.2.2, decode M.2.1 q.1 = .ok (q.2.1, q.2.2.1) ∧ q.1 + q.2.2.1 = q.2.2.2
def zAg (al : Bool) (n0 : Nat) (ad ad0 : Nat → Nat) : Prop := if al = true then ∀ i, i < n0 → ad i = ad0 i else ad = ad0
theorem zAg.rf {al : Bool} {n0 : Nat} {ad : Nat → Nat} : zAg al n0 ad ad := by
  unfold zAg
  split
  · exact fun _ _ => rfl
  · rfl
theorem zAg.at {al : Bool} {n0 : Nat} {ad ad0 : Nat → Nat} (h : zAg al n0 ad ad0) (i : Nat) (hi : i < n0) : ad i = ad0 i := by
  unfold zAg at h
  split at h
  · exact h i hi
  · rw [h]
def zQ (al : Bool) (Q : Option Value → List zE → Prop) (D : va_G) (cI cL : ClassId) (A : Nat → Prop) (ad0 : Nat → Nat) (n0 : Nat) : Array Value → State → Outcome → State → Prop := fun _ st oc t =>
  ∃ (r : Option Value) (mem : List zE) (ad : Nat → Nat), oc = .returned (r.map (zv ad)) ∧ Q r mem ∧ zAg al n0 ad ad0 ∧ n0 ≤ mem.length ∧ zW D cI cL ad A t t.heap mem ∧ va_F A st t
def zBody (M : zM) (D : va_G) (cI cL : ClassId) (p : Program) (s : State) (m : MethodId) (args : Array Value) (meth : Method) (c : Code) : Prop :=
  p.tables.exec = Jvm.exec ∧ c.code = M.2.1 ∧ c.maxLocals = M.2.2.1 ∧ meth.sig.returnType = M.2.2.2.1 ∧ meth.locks = false ∧ s.vm.findClass M.1.cls = some m.cls ∧ meth.name = M.1.name ∧ (∀ w ∈ zTB, w.before args s = true) ∧ (∀ w ∈ zNW, va_Nw w s) ∧ va_K D zCls [(cI, .int), (cL, .long)] s
def Z (X : zX) (kc ks : Nat) (mem : List zE) (pc : Nat) (lv : List (Nat × Value)) (st : List Value) : Prop :=
  ∀ (D : va_G) (cI cL : ClassId) (ad ad0 : Nat → Nat) (n0 : Nat) (A : Nat → Prop) (p : Program) (e : Env) (s : State) (m : MethodId) (args : Array Value) (below : List Frame) (meth : Method) (c : Code) (H : Heap) (locs : List Loc) (ls : Array Slot),
    zDec X.M → zBody X.M D cI cL p s m args meth c → zW D cI cL ad A s H mem → zAg X.al n0 ad ad0 → n0 ≤ mem.length → (∀ q, s.heap.size ≤ q → A q) → va_S A s.heap H locs → lv_has ls X.M.2.2.1 (lv.map (zq ad)) →
    W p X.1 e X.R s m args below meth c H locs kc ks (MQ below (zQ X.al X.Q D cI cL A ad0 n0) args s X.mc X.ms A) (F0 m pc ls (st.map (zv ad)))
/-- the cells that a method may write: those of its world that aren't read-only, and those that it makes -/
def zA (mem : List zE) (ad : Nat → Nat) (sz : Nat) : Nat → Prop := fun q => (∃ (i : Nat) (e : zE), mem[i]? = some e ∧ zrw e = true ∧ ad i = q) ∨ sz ≤ q
def zws (M : zM) : List Cond := .code M.1 M.2.1 M.2.2.1 M.2.2.2.1 :: zTB
/-- the contract of a method -/
def Con (l : Launch) (M : zM) (rm : Room) (mc ms : Nat) (al : Bool) (args : List Value) (mem : List zE) (Q : Option Value → List zE → Prop) : Prop :=
  ∀ (D : va_G) (cI cL : ClassId) (ad0 : Nat → Nat) (sz : Nat), Met l M.1 (zws M) rm (va_Pc (args.map (zv ad0)) (fun U => U.heap.size = sz ∧ zW D cI cL ad0 (zA mem ad0 sz) U U.heap mem ∧ va_K D zCls [(cI, .int), (cL, .long)] U ∧ ∀ w ∈ zNW, va_Nw w U)) (zQ al Q D cI cL (zA mem ad0 sz) ad0 mem.length) mc ms (zA mem ad0 sz)
theorem zv_cat (ad : Nat → Nat) (v : Value) : (zv ad v).category = v.category := by cases v <;> rfl
theorem lg_sl_zv (ad : Nat → Nat) : ∀ vs : List Value, (lg_sl (vs.map (zv ad))).length = (lg_sl vs).length := by
  intro vs
  induction vs with
  | nil => rfl
  | cons v vs ih =>
    simp only [List.map_cons, lg_sl, List.flatMap_cons, List.length_append] at ih ⊢
    rw [ih, zv_cat]
    congr 1
    split <;> rfl
theorem lv_args_zv (ad : Nat → Nat) : ∀ (vs : List Value) (i : Nat), lv_args i (vs.map (zv ad)) = (lv_args i vs).map (zq ad) := by
  intro vs
  induction vs with
  | nil => intro i; rfl
  | cons v vs ih =>
    intro i
    simp only [List.map_cons, lv_args]
    rw [ih, zv_cat]
    rfl
