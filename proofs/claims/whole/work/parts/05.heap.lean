/-! the rows of Z on cells, and a method's end -/
/-- class number ci is C, with its fields' table, how many, their types -/
def zCK (ci : Nat) (C : String) (T : u_T) (N : Nat) (ty : Nat → FieldType) : Prop := zCls[ci]? = some (C, T, N) ∧ (∀ w ∈ u_ws C T N, w ∈ zTB) ∧ (∀ k, k < N → parseFieldDescriptor (T k).2.2.1 = some (ty k)) ∧ ∀ a, a < N → ∀ b, b < N → a ≠ b → (T a).2.1 ≠ (T b).2.1
theorem zck_0 : zCK 0 RX0 TX0 3 tyX0 := ⟨rfl, inX0, tyX0_ok, nmX0⟩
theorem zck_1 : zCK 1 RX1 TX1 2 tyX1 := ⟨rfl, inX1, tyX1_ok, nmX1⟩
theorem zck_2 : zCK 2 RX2 TX2 8 tyX2 := ⟨rfl, inX2, tyX2_ok, nmX2⟩
theorem zck_3 : zCK 3 RX3 TX3 2 tyX3 := ⟨rfl, inX3, tyX3_ok, nmX3⟩
theorem zck_4 : zCK 4 RX4 TX4 5 tyX4 := ⟨rfl, inX4, tyX4_ok, nmX4⟩
theorem zck_5 : zCK 5 RX5 TX5 4 tyX5 := ⟨rfl, inX5, tyX5_ok, nmX5⟩
theorem zck_6 : zCK 6 RX6 TX6 6 tyX6 := ⟨rfl, inX6, tyX6_ok, nmX6⟩
theorem zck_7 : zCK 7 RX7 TX7 15 tyX7 := ⟨rfl, inX7, tyX7_ok, nmX7⟩
theorem zck_8 : zCK 8 RX8 TX8 35 tyX8 := ⟨rfl, inX8, tyX8_ok, nmX8⟩
/-- entry idx of own's file is field j of class ci, of type fty; a nest mate's -/
def zF (own : String) (idx ci j : Nat) (fty : FieldType) (fin : Bool) : Prop := ∃ (C : String) (T : u_T) (N : Nat) (ty : Nat → FieldType), zCK ci C T N ty ∧ j < N ∧ ty j = fty ∧ (T j).2.2.2 = fin ∧ Cond.fieldLink own idx (T j).1 (T j).2.1 (T j).2.2.1 ∈ zTB
def zFN (own : String) (idx ci j : Nat) (fty : FieldType) (fin : Bool) : Prop := ∃ (C : String) (T : u_T) (N : Nat) (ty : Nat → FieldType) (host : String), zCK ci C T N ty ∧ j < N ∧ ty j = fty ∧ (T j).2.2.2 = fin ∧ Cond.fieldLinkNest own idx (T j).1 (T j).2.1 (T j).2.2.1 host ∈ zNW
section ZH
variable {X : zX} {kc ks : Nat} {mem : List zE} {pc n : Nat} {lv : List (Nat × Value)} {st : List Value}
theorem zP1 {D : va_G} {cI cL : ClassId} {ad : Nat → Nat} {A : Nat → Prop} {U : State} {H : Heap} {a ci : Nat} {fs : List Value} (h : zat D cI cL ad A U H a (zO ci fs)) : va_P D zCls [(a, .inr (ci, fs.map (zv ad)))] H := by
  intro k q hk
  have hz : k < 1 := (List.getElem?_eq_some_iff.mp hk).1
  rw [show k = 0 by omega] at hk
  cases hk
  exact h.2
theorem Z_get (k : Nat) {idx ci j : Nat} {fty : FieldType} {fin : Bool} {q : Nat} {fs : List Value} {v : Value} (h : X.I[k]? = some (pc, .getfield idx, 3, n)) (hf : zF X.M.1.cls idx ci j fty fin) (hq : mem[q]? = some (zO ci fs)) (hv : fs[j]? = some v) (kk : Z X kc ks mem n lv (v :: st)) : Z X kc ks mem pc lv (.ref q :: st) := by
  intro D cI cL ad ad0 n0 A p e s m args below meth c H locs ls hd hB hWd hag hn hA hS hl
  obtain ⟨h1, rfl⟩ := zI_dec hd h
  obtain ⟨C, T, N, ty, ⟨c1, c2, c3, c4⟩, hj, rfl, rfl, hlk⟩ := hf
  have hP := zP1 (hWd.1 q _ hq)
  exact va_get hB.1 hB.2.1 hB.2.2.2.2.2.2.2.1 c2 hB.2.2.2.2.2.1 hB.2.2.2.2.2.2.2.2.2 hP 0 rfl c1 j hj (hB.2.2.2.2.2.2.2.1 _ hlk) (fun _ z => z) (by rw [List.getElem?_map, hv]; rfl) h1 (kk D cI cL ad ad0 n0 A p e s m args below meth c H locs ls hd hB hWd hag hn hA hS hl)
theorem Z_getN (k : Nat) {idx ci j : Nat} {fty : FieldType} {fin : Bool} {q : Nat} {fs : List Value} {v : Value} (h : X.I[k]? = some (pc, .getfield idx, 3, n)) (hf : zFN X.M.1.cls idx ci j fty fin) (hq : mem[q]? = some (zO ci fs)) (hv : fs[j]? = some v) (kk : Z X kc ks mem n lv (v :: st)) : Z X kc ks mem pc lv (.ref q :: st) := by
  intro D cI cL ad ad0 n0 A p e s m args below meth c H locs ls hd hB hWd hag hn hA hS hl
  obtain ⟨h1, rfl⟩ := zI_dec hd h
  obtain ⟨C, T, N, ty, host, ⟨c1, c2, c3, c4⟩, hj, rfl, rfl, hlk⟩ := hf
  have hP := zP1 (hWd.1 q _ hq)
  exact va_getN hB.1 hB.2.1 hB.2.2.2.2.2.2.2.1 c2 hB.2.2.2.2.2.1 hB.2.2.2.2.2.2.2.2.2 hP 0 rfl c1 j hj ((hB.2.2.2.2.2.2.2.2.1 _ hlk).use rfl) (fun _ z => z) (by rw [List.getElem?_map, hv]; rfl) h1 (kk D cI cL ad ad0 n0 A p e s m args below meth c H locs ls hd hB hWd hag hn hA hS hl)
theorem Z_put (k : Nat) {idx ci j : Nat} {fty : FieldType} {q : Nat} {fs fs' : List Value} {v : Value} {mem' : List zE} (h : X.I[k]? = some (pc, .putfield idx, 3, n)) (hf : zF X.M.1.cls idx ci j fty false) (hq : mem[q]? = some (zO ci fs)) (hj2 : j < fs.length) (hv : ∀ ad, narrow fty (zv ad v) = zv ad v ∧ fits fty (zv ad v) = true) (hm : mem.set q (zO ci (fs.set j v)) = mem') (kk : Z X kc ks mem' n lv st) : Z X kc ks mem pc lv (v :: .ref q :: st) := by
  intro D cI cL ad ad0 n0 A p e s m args below meth c H locs ls hd hB hWd hag hn hA hS hl
  obtain ⟨h1, rfl⟩ := zI_dec hd h
  subst hm
  obtain ⟨C, T, N, ty, ⟨c1, c2, c3, c4⟩, hj, rfl, hfin, hlk⟩ := hf
  have hts := hB.2.2.2.2.2.2.2.1
  have hK := hB.2.2.2.2.2.2.2.2.2
  have hap := va_apart (own := X.M.1.cls) hts c2 ty c3 c4 hK c1
  obtain ⟨hAa, r, g1, cell, q1, q2, q3, q4⟩ := hWd.1 q _ hq
  have hr : r = (C, T, N) := Option.some.inj (g1.symm.trans c1)
  subst hr
  obtain ⟨hSl, hfc, kC, hkC, hkind⟩ := hK.1 ci _ c1
  obtain ⟨cf, kf, fi, f, hi, hsl⟩ := hSl j hj
  have hlay := hts _ (c2 _ (u_in_lay hj))
  unfold u_lay at hlay
  rw [if_neg (by rw [hfin]; decide)] at hlay
  have hst := (u_facts hfc hkC (u_lays hts c2 hj) hi).1
  have h6 := u_store hfc hkC hkind hlay hi (c3 j hj) (hv ad).1 (hv ad).2
  refine W.putK hB.1 hB.2.1 (f := f) ⟨hB.2.2.2.2.2.1, hts _ hlk, ⟨_, _, _, hi⟩, hst⟩ (by rw [q2]; exact h6) q1 q3 (by rw [hsl]; exact k2_hasslot (q4 j hj)) rfl rfl h1 fun H' e1 e2 e3 => ?_
  rw [hsl] at e1 ⊢
  refine kk D cI cL ad ad0 n0 A p e s m args below meth c H' _ ls hd hB (hWd.set hq rfl ⟨hAa, _, c1, t_OB.to (V := updV (vp_V (fs.map (zv ad))) j (zv ad v)) ⟨_, e1, q2, q3, t_set q4 hap hj _⟩ (fun i _ => ?_)⟩ rfl e2 e3) hag (by simpa using hn) hA (hS.put e2 e3 hAa) hl
  rw [List.map_set]
  exact vp_updV_set (by simpa using hj2) _ i
theorem Z_putN (k : Nat) {idx ci j : Nat} {fty : FieldType} {q : Nat} {fs fs' : List Value} {v : Value} {mem' : List zE} (h : X.I[k]? = some (pc, .putfield idx, 3, n)) (hf : zFN X.M.1.cls idx ci j fty false) (hq : mem[q]? = some (zO ci fs)) (hj2 : j < fs.length) (hv : ∀ ad, narrow fty (zv ad v) = zv ad v ∧ fits fty (zv ad v) = true) (hm : mem.set q (zO ci (fs.set j v)) = mem') (kk : Z X kc ks mem' n lv st) : Z X kc ks mem pc lv (v :: .ref q :: st) := by
  intro D cI cL ad ad0 n0 A p e s m args below meth c H locs ls hd hB hWd hag hn hA hS hl
  obtain ⟨h1, rfl⟩ := zI_dec hd h
  subst hm
  obtain ⟨C, T, N, ty, host, ⟨c1, c2, c3, c4⟩, hj, rfl, hfin, hlk⟩ := hf
  have hts := hB.2.2.2.2.2.2.2.1
  have hK := hB.2.2.2.2.2.2.2.2.2
  have hap := va_apart (own := X.M.1.cls) hts c2 ty c3 c4 hK c1
  obtain ⟨hAa, r, g1, cell, q1, q2, q3, q4⟩ := hWd.1 q _ hq
  have hr : r = (C, T, N) := Option.some.inj (g1.symm.trans c1)
  subst hr
  obtain ⟨hSl, hfc, kC, hkC, hkind⟩ := hK.1 ci _ c1
  obtain ⟨cf, kf, fi, f, hi, hsl⟩ := hSl j hj
  have hlay := hts _ (c2 _ (u_in_lay hj))
  unfold u_lay at hlay
  rw [if_neg (by rw [hfin]; decide)] at hlay
  have hst := (u_facts hfc hkC (u_lays hts c2 hj) hi).1
  have h6 := u_store hfc hkC hkind hlay hi (c3 j hj) (hv ad).1 (hv ad).2
  refine va_WputK hB.1 hB.2.1 (f := f) hB.2.2.2.2.2.1 ((hB.2.2.2.2.2.2.2.2.1 _ hlk).use rfl) hi hst (by rw [q2]; exact h6) q1 q3 (by rw [hsl]; exact k2_hasslot (q4 j hj)) rfl rfl h1 fun H' e1 e2 e3 => ?_
  rw [hsl] at e1 ⊢
  refine kk D cI cL ad ad0 n0 A p e s m args below meth c H' _ ls hd hB (hWd.set hq rfl ⟨hAa, _, c1, t_OB.to (V := updV (vp_V (fs.map (zv ad))) j (zv ad v)) ⟨_, e1, q2, q3, t_set q4 hap hj _⟩ (fun i _ => ?_)⟩ rfl e2 e3) hag (by simpa using hn) hA (hS.put e2 e3 hAa) hl
  rw [List.map_set]
  exact vp_updV_set (by simpa using hj2) _ i
/-- a final field, in its class's constructor -/
theorem Z_putF (k : Nat) {idx ci j : Nat} {fty : FieldType} {q : Nat} {fs fs' : List Value} {v : Value} {mem' : List zE} {C : String} {T : u_T} {N : Nat} {ty : Nat → FieldType} (h : X.I[k]? = some (pc, .putfield idx, 3, n)) (hck : zCK ci C T N ty) (hj : j < N) (hlk : Cond.fieldLink X.M.1.cls idx (T j).1 (T j).2.1 (T j).2.2.1 ∈ zTB) (hfin : (T j).2.2.2 = true) (hdecl : (T j).1 = X.M.1.cls) (hini : X.M.1.name = "<init>") (hq : mem[q]? = some (zO ci fs)) (hj2 : j < fs.length) (hv : ∀ ad, narrow (ty j) (zv ad v) = zv ad v ∧ fits (ty j) (zv ad v) = true) (hm : mem.set q (zO ci (fs.set j v)) = mem') (kk : Z X kc ks mem' n lv st) : Z X kc ks mem pc lv (v :: .ref q :: st) := by
  intro D cI cL ad ad0 n0 A p e s m args below meth c H locs ls hd hB hWd hag hn hA hS hl
  obtain ⟨h1, rfl⟩ := zI_dec hd h
  subst hm
  obtain ⟨c1, c2, c3, c4⟩ := hck
  have hts := hB.2.2.2.2.2.2.2.1
  have hK := hB.2.2.2.2.2.2.2.2.2
  have hown := hB.2.2.2.2.2.1
  have hap := va_apart (own := X.M.1.cls) hts c2 ty c3 c4 hK c1
  obtain ⟨hAa, r, g1, cell, q1, q2, q3, q4⟩ := hWd.1 q _ hq
  have hr : r = (C, T, N) := Option.some.inj (g1.symm.trans c1)
  subst hr
  obtain ⟨hSl, hfc, kC, hkC, hkind⟩ := hK.1 ci _ c1
  obtain ⟨cf, kf, fi, f, hi, hsl⟩ := hSl j hj
  have hlay := hts _ (c2 _ (u_in_lay hj))
  unfold u_lay at hlay
  rw [if_pos hfin] at hlay
  have hst := (u_facts hfc hkC (u_lays hts c2 hj) hi).1
  have hcf : m.cls = cf := by
    obtain ⟨_, _, c', _, _, _, -, -, hf', -, -, -, hown2, -⟩ := Cond.laysFinal_spec hlay
    have e1 : c' = cf := by have := hi.symm.trans hf'; simp at this; exact this.1.symm
    rw [hdecl] at hown2
    rw [← e1]; exact Option.some.inj (hown.symm.trans hown2)
  have h6 := u_fits hfc hkC hkind (Or.inr hlay) hi (c3 j hj) (hv ad).1 (hv ad).2
  refine W.putFinK hB.1 hB.2.1 hown (hts _ hlk) hi hst hcf (hB.2.2.2.2.2.2.1.trans hini) (by rw [q2]; exact h6) q1 q3 (by rw [hsl]; exact k2_hasslot (q4 j hj)) rfl rfl h1 fun H' e1 e2 e3 => ?_
  rw [hsl] at e1 ⊢
  refine kk D cI cL ad ad0 n0 A p e s m args below meth c H' _ ls hd hB (hWd.set hq rfl ⟨hAa, _, c1, t_OB.to (V := updV (vp_V (fs.map (zv ad))) j (zv ad v)) ⟨_, e1, q2, q3, t_set q4 hap hj _⟩ (fun i _ => ?_)⟩ rfl e2 e3) hag (by simpa using hn) hA (hS.put e2 e3 hAa) hl
  rw [List.map_set]
  exact vp_updV_set (by simpa using hj2) _ i
theorem Z_ia (k : Nat) {q N : Nat} {F : Int → Int} {i : Int} (h : X.I[k]? = some (pc, .iaload, 1, n)) (hq : mem[q]? = some (aI N F)) (hi : 0 ≤ i ∧ i < (N : Int)) (hN : N < 2147483648) (kk : Z X kc ks mem n lv (.int (iI (F i)) :: st)) : Z X kc ks mem pc lv (.int (iI i) :: .ref q :: st) := by
  intro D cI cL ad ad0 n0 A p e s m args below meth c H locs ls hd hB hWd hag hn hA hS hl
  obtain ⟨h1, rfl⟩ := zI_dec hd h
  obtain ⟨x1, x2⟩ := iI_ix hi hN
  have hK := hB.2.2.2.2.2.2.2.2.2
  refine W.iald (v := .int (iI (F i))) hB.1 hB.2.1 (hWd.1 q _ hq).2 ((hK.2 0 _ rfl).1 N (fun j => .int (iI (F (j : Int))))) (fun z => by cases z) (by show ¬ (_ < 0 ∨ (arrV _ _ _).slots.size ≤ _); rw [arrV_size]; exact x1) ?_ rfl rfl h1 (kk D cI cL ad ad0 n0 A p e s m args below meth c H locs ls hd hB hWd hag hn hA hS hl)
  show (arrV _ _ _).slots[_]? = _
  rw [x2, arrV_read _ _ (show i.toNat < N by omega)]
  show some (Value.int (iI (F (i.toNat : Int)))) = _
  rw [Int.toNat_of_nonneg hi.1]
theorem Z_iaR (k : Nat) {q N : Nat} {F : Int → Int} {i : Int} (h : X.I[k]? = some (pc, .iaload, 1, n)) (hq : mem[q]? = some (aR N F)) (hi : 0 ≤ i ∧ i < (N : Int)) (hN : N < 2147483648) (kk : Z X kc ks mem n lv (.int (iI (F i)) :: st)) : Z X kc ks mem pc lv (.int (iI i) :: .ref q :: st) := by
  intro D cI cL ad ad0 n0 A p e s m args below meth c H locs ls hd hB hWd hag hn hA hS hl
  obtain ⟨h1, rfl⟩ := zI_dec hd h
  obtain ⟨x1, x2⟩ := iI_ix hi hN
  obtain ⟨cell, g1, g2, g3, g4, g5, g6, g7⟩ := hWd.1 q _ hq
  refine W.iald (v := .int (iI (F i))) hB.1 hB.2.1 g1 g2 g3 (fun z => x1 (z.imp (fun z => z) (fun z => by show N ≤ _; have g4' : N ≤ cell.slots.size := g4; omega))) ?_ rfl rfl h1 (kk D cI cL ad ad0 n0 A p e s m args below meth c H locs ls hd hB hWd hag hn hA hS hl)
  rw [x2, g6 _ (show i.toNat < N by omega)]
  show some (Value.int (iI (F (i.toNat : Int)))) = _
  rw [Int.toNat_of_nonneg hi.1]
theorem Z_baR (k : Nat) {q N : Nat} {F : Int → Int} {i : Int} (h : X.I[k]? = some (pc, .baload, 1, n)) (hq : mem[q]? = some (aB N F)) (hi : 0 ≤ i ∧ i < (N : Int)) (hN : N < 2147483648) (kk : Z X kc ks mem n lv (.int (iI (F i)) :: st)) : Z X kc ks mem pc lv (.int (iI i) :: .ref q :: st) := by
  intro D cI cL ad ad0 n0 A p e s m args below meth c H locs ls hd hB hWd hag hn hA hS hl
  obtain ⟨h1, rfl⟩ := zI_dec hd h
  obtain ⟨x1, x2⟩ := iI_ix hi hN
  obtain ⟨cell, g1, g2, g3, g4, g5, g6, g7⟩ := hWd.1 q _ hq
  refine W.bald (v := .int (iI (F i))) hB.1 hB.2.1 g1 g2 g3 (fun z => x1 (z.imp (fun z => z) (fun z => by show N ≤ _; have g4' : N ≤ cell.slots.size := g4; omega))) ?_ rfl rfl h1 (kk D cI cL ad ad0 n0 A p e s m args below meth c H locs ls hd hB hWd hag hn hA hS hl)
  rw [x2, g6 _ (show i.toNat < N by omega)]
  show some (Value.int (iI (F (i.toNat : Int)))) = _
  rw [Int.toNat_of_nonneg hi.1]
theorem Z_la (k : Nat) {q N : Nat} {F : Int → Int} {i : Int} (h : X.I[k]? = some (pc, .laload, 1, n)) (hq : mem[q]? = some (aL N F)) (hi : 0 ≤ i ∧ i < (N : Int)) (hN : N < 2147483648) (kk : Z X kc ks mem n lv (.long (lI (F i)) :: st)) : Z X kc ks mem pc lv (.int (iI i) :: .ref q :: st) := by
  intro D cI cL ad ad0 n0 A p e s m args below meth c H locs ls hd hB hWd hag hn hA hS hl
  obtain ⟨h1, rfl⟩ := zI_dec hd h
  obtain ⟨x1, x2⟩ := iI_ix hi hN
  have hK := hB.2.2.2.2.2.2.2.2.2
  refine W.lald (v := .long (lI (F i))) hB.1 hB.2.1 (hWd.1 q _ hq).2 ((hK.2 1 _ rfl).1 N (fun j => .long (lI (F (j : Int))))) (fun z => by cases z) (by show ¬ (_ < 0 ∨ (arrV _ _ _).slots.size ≤ _); rw [arrV_size]; exact x1) ?_ rfl rfl h1 (kk D cI cL ad ad0 n0 A p e s m args below meth c H locs ls hd hB hWd hag hn hA hS hl)
  show (arrV _ _ _).slots[_]? = _
  rw [x2, arrV_read _ _ (show i.toNat < N by omega)]
  show some (Value.long (lI (F (i.toNat : Int)))) = _
  rw [Int.toNat_of_nonneg hi.1]
theorem Z_ias (k : Nat) {q N : Nat} {F : Int → Int} {i v : Int} {mem' : List zE} (h : X.I[k]? = some (pc, .iastore, 1, n)) (hq : mem[q]? = some (aI N F)) (hi : 0 ≤ i ∧ i < (N : Int)) (hN : N < 2147483648) (hm : mem.set q (aI N (uI F i v)) = mem') (kk : Z X kc ks mem' n lv st) : Z X kc ks mem pc lv (.int (iI v) :: .int (iI i) :: .ref q :: st) := by
  intro D cI cL ad ad0 n0 A p e s m args below meth c H locs ls hd hB hWd hag hn hA hS hl
  obtain ⟨h1, rfl⟩ := zI_dec hd h
  subst hm
  obtain ⟨x1, x2⟩ := iI_ix hi hN
  have hK := hB.2.2.2.2.2.2.2.2.2
  obtain ⟨hAa, hc⟩ := hWd.1 q _ hq
  refine W.iast hB.1 hB.2.1 hc ((hK.2 0 _ rfl).1 N (fun j => .int (iI (F (j : Int))))) (fun z => by cases z) (by show ¬ (_ < 0 ∨ (arrV _ _ _).slots.size ≤ _); rw [arrV_size]; exact x1) rfl rfl h1 fun H1 e1 z oq => ?_
  refine kk D cI cL ad ad0 n0 A p e s m args below meth c H1 _ ls hd hB (hWd.set hq rfl ⟨hAa, ?_⟩ rfl z oq) hag (by simpa using hn) hA (hS.put z oq hAa) hl
  show H1[ad q]? = some (vp_cell _ _)
  rw [e1, vp_cell_i, vp_cell_i, arrV_store, x2]
  congr 2
  funext j
  show updV _ _ _ j = Value.int (iI (uI F i v (j : Int)))
  by_cases hj : j = i.toNat
  · subst hj
    rw [Int.toNat_of_nonneg hi.1, uI_s]
    simp [updV]
  · rw [uI_n F v (by omega)]
    simp [updV, hj]
theorem Z_las (k : Nat) {q N : Nat} {F : Int → Int} {i v : Int} {mem' : List zE} (h : X.I[k]? = some (pc, .lastore, 1, n)) (hq : mem[q]? = some (aL N F)) (hi : 0 ≤ i ∧ i < (N : Int)) (hN : N < 2147483648) (hm : mem.set q (aL N (uI F i v)) = mem') (kk : Z X kc ks mem' n lv st) : Z X kc ks mem pc lv (.long (lI v) :: .int (iI i) :: .ref q :: st) := by
  intro D cI cL ad ad0 n0 A p e s m args below meth c H locs ls hd hB hWd hag hn hA hS hl
  obtain ⟨h1, rfl⟩ := zI_dec hd h
  subst hm
  obtain ⟨x1, x2⟩ := iI_ix hi hN
  have hK := hB.2.2.2.2.2.2.2.2.2
  obtain ⟨hAa, hc⟩ := hWd.1 q _ hq
  refine W.last hB.1 hB.2.1 hc ((hK.2 1 _ rfl).1 N (fun j => .long (lI (F (j : Int))))) (fun z => by cases z) (by show ¬ (_ < 0 ∨ (arrV _ _ _).slots.size ≤ _); rw [arrV_size]; exact x1) rfl rfl h1 fun H1 e1 z oq => ?_
  refine kk D cI cL ad ad0 n0 A p e s m args below meth c H1 _ ls hd hB (hWd.set hq rfl ⟨hAa, ?_⟩ rfl z oq) hag (by simpa using hn) hA (hS.put z oq hAa) hl
  show H1[ad q]? = some (vp_cell _ _)
  rw [e1, vp_cell_l, vp_cell_l, arrV_store, x2]
  congr 2
  funext j
  show updV _ _ _ j = Value.long (lI (uI F i v (j : Int)))
  by_cases hj : j = i.toNat
  · subst hj
    rw [Int.toNat_of_nonneg hi.1, uI_s]
    simp [updV]
  · rw [uI_n F v (by omega)]
    simp [updV, hj]
theorem Z_alI (k : Nat) {q N : Nat} {F : Int → Int} (h : X.I[k]? = some (pc, .arraylength, 1, n)) (hq : mem[q]? = some (aI N F)) (kk : Z X kc ks mem n lv (.int (iI (N : Int)) :: st)) : Z X kc ks mem pc lv (.ref q :: st) := by
  intro D cI cL ad ad0 n0 A p e s m args below meth c H locs ls hd hB hWd hag hn hA hS hl
  obtain ⟨h1, rfl⟩ := zI_dec hd h
  have hK := hB.2.2.2.2.2.2.2.2.2
  refine W.alen (n := iI (N : Int)) hB.1 hB.2.1 (hWd.1 q _ hq).2 ((hK.2 0 _ rfl).1 N (fun j => .int (iI (F (j : Int))))) (by show (arrV _ _ _).slots.size.toInt32 = _; rw [arrV_size]; rfl) rfl rfl h1 (kk D cI cL ad ad0 n0 A p e s m args below meth c H locs ls hd hB hWd hag hn hA hS hl)
theorem Z_alL (k : Nat) {q N : Nat} {F : Int → Int} (h : X.I[k]? = some (pc, .arraylength, 1, n)) (hq : mem[q]? = some (aL N F)) (kk : Z X kc ks mem n lv (.int (iI (N : Int)) :: st)) : Z X kc ks mem pc lv (.ref q :: st) := by
  intro D cI cL ad ad0 n0 A p e s m args below meth c H locs ls hd hB hWd hag hn hA hS hl
  obtain ⟨h1, rfl⟩ := zI_dec hd h
  have hK := hB.2.2.2.2.2.2.2.2.2
  refine W.alen (n := iI (N : Int)) hB.1 hB.2.1 (hWd.1 q _ hq).2 ((hK.2 1 _ rfl).1 N (fun j => .long (lI (F (j : Int))))) (by show (arrV _ _ _).slots.size.toInt32 = _; rw [arrV_size]; rfl) rfl rfl h1 (kk D cI cL ad ad0 n0 A p e s m args below meth c H locs ls hd hB hWd hag hn hA hS hl)
theorem zlen_i (N : Nat) : Int32.ofNat N = iI (N : Int) := rfl
theorem Z_alR (k : Nat) {q N : Nat} {F : Int → Int} (h : X.I[k]? = some (pc, .arraylength, 1, n)) (hq : mem[q]? = some (aR N F)) (kk : Z X kc ks mem n lv (.int (iI (N : Int)) :: st)) : Z X kc ks mem pc lv (.ref q :: st) := by
  intro D cI cL ad ad0 n0 A p e s m args below meth c H locs ls hd hB hWd hag hn hA hS hl
  obtain ⟨h1, rfl⟩ := zI_dec hd h
  obtain ⟨cell, g1, g2, g3, g4, g5, g6, g7⟩ := hWd.1 q _ hq
  exact W.alen (n := iI (N : Int)) hB.1 hB.2.1 g1 g2 g5 rfl rfl h1 (kk D cI cL ad ad0 n0 A p e s m args below meth c H locs ls hd hB hWd hag hn hA hS hl)
theorem Z_alB (k : Nat) {q N : Nat} {F : Int → Int} (h : X.I[k]? = some (pc, .arraylength, 1, n)) (hq : mem[q]? = some (aB N F)) (kk : Z X kc ks mem n lv (.int (iI (N : Int)) :: st)) : Z X kc ks mem pc lv (.ref q :: st) := by
  intro D cI cL ad ad0 n0 A p e s m args below meth c H locs ls hd hB hWd hag hn hA hS hl
  obtain ⟨h1, rfl⟩ := zI_dec hd h
  obtain ⟨cell, g1, g2, g3, g4, g5, g6, g7⟩ := hWd.1 q _ hq
  exact W.alen (n := iI (N : Int)) hB.1 hB.2.1 g1 g2 g5 rfl rfl h1 (kk D cI cL ad ad0 n0 A p e s m args below meth c H locs ls hd hB hWd hag hn hA hS hl)
/-- a static field, of those that the world tells -/
theorem Z_gets (k : Nat) {idx q : Nat} {l : List (String × String × String × Value)} {C f d : String} {v : Value} (h : X.I[k]? = some (pc, .getstatic idx, 3, n)) (hlk : Cond.fieldLink X.M.1.cls idx C f d ∈ zTB) (hq : mem[q]? = some (zT l)) (hv : (C, f, d, v) ∈ l) (kk : Z X kc ks mem n lv (v :: st)) : Z X kc ks mem pc lv st := by
  intro D cI cL ad ad0 n0 A p e s m args below meth c H locs ls hd hB hWd hag hn hA hS hl
  obtain ⟨h1, rfl⟩ := zI_dec hd h
  obtain ⟨cf, kf, fi, fl, a, cell, g1, g2, g3, g4, g5, g6, g7, g8⟩ := (hWd.1 q _ hq).1 _ hv
  exact W.gets hB.1 hB.2.1 hB.2.2.2.2.2.1 (hB.2.2.2.2.2.2.2.1 _ hlk) g1 g2 g3 g4 g5 (fun z => by rw [z] at g6; cases g6) g7 rfl h1 (kk D cI cL ad ad0 n0 A p e s m args below meth c H locs ls hd hB hWd hag hn hA hS hl)
/-- String constants: ldc, the two fields of a String -/
theorem Z_ldcS (k : Nat) {idx q i j : Nat} {tx : String} (h : X.I[k]? = some (pc, .ldc idx, 2, n)) (hown : X.M.1.cls = "CamPieces$Reader") (hq : mem[q]? = some (zS i j)) (hs : zStr[i]? = some (tx, idx)) (kk : Z X kc ks mem n lv (.ref q :: st)) : Z X kc ks mem pc lv st := by
  intro D cI cL ad ad0 n0 A p e s m args below meth c H locs ls hd hB hWd hag hn hA hS hl
  obtain ⟨h1, rfl⟩ := zI_dec hd h
  have ho := hB.2.2.2.2.2.1
  rw [hown] at ho
  exact va_ldcS hB.1 hB.2.1 ho ((hWd.1 q _ hq).1 _ hs) h1 (kk D cI cL ad ad0 n0 A p e s m args below meth c H locs ls hd hB hWd hag hn hA hS hl)
theorem Z_getSv (k : Nat) {idx q i j : Nat} (h : X.I[k]? = some (pc, .getfield idx, 3, n)) (hlk : Cond.fieldLink X.M.1.cls idx "java/lang/String" "value" "[B" ∈ zTB) (hq : mem[q]? = some (zS i j)) (kk : Z X kc ks mem n lv (.ref j :: st)) : Z X kc ks mem pc lv (.ref q :: st) := by
  intro D cI cL ad ad0 n0 A p e s m args below meth c H locs ls hd hB hWd hag hn hA hS hl
  obtain ⟨h1, rfl⟩ := zI_dec hd h
  obtain ⟨cf, kf, fi, f, cell, g1, g2, g3, g4, g5, g6⟩ := (hWd.1 q _ hq).2.2.2
  exact W.getf hB.1 hB.2.1 hB.2.2.2.2.2.1 (hB.2.2.2.2.2.2.2.1 _ hlk) g1 g2 g3 g4 g5 rfl rfl h1 (kk D cI cL ad ad0 n0 A p e s m args below meth c H locs ls hd hB hWd hag hn hA hS hl)
theorem Z_getSc (k : Nat) {idx q i j : Nat} (h : X.I[k]? = some (pc, .getfield idx, 3, n)) (hlk : Cond.fieldLink X.M.1.cls idx "java/lang/String" "coder" "B" ∈ zTB) (hq : mem[q]? = some (zS i j)) (kk : Z X kc ks mem n lv (.int (iI 0) :: st)) : Z X kc ks mem pc lv (.ref q :: st) := by
  intro D cI cL ad ad0 n0 A p e s m args below meth c H locs ls hd hB hWd hag hn hA hS hl
  obtain ⟨h1, rfl⟩ := zI_dec hd h
  obtain ⟨cf, kf, fi, f, cell, g1, g2, g3, g4, g5, g6⟩ := (hWd.1 q _ hq).2.2.1
  exact W.getf hB.1 hB.2.1 hB.2.2.2.2.2.1 (hB.2.2.2.2.2.2.2.1 _ hlk) g1 g2 g3 g4 g5 rfl rfl h1 (kk D cI cL ad ad0 n0 A p e s m args below meth c H locs ls hd hB hWd hag hn hA hS hl)
/-- switches -/
theorem Z_tabIn (k : Nat) {dflt lo hi off x : Int} {offs : Array Int} {len tgt : Nat} (h : X.I[k]? = some (pc, .tableswitch dflt lo hi offs, len, n)) (hx : inI x) (h1 : ¬ x < lo) (h2 : ¬ hi < x) (ho : offs[(x - lo).toNat]? = some off) (ht : (pc : Int) + off = (tgt : Int)) (kk : Z X kc ks mem tgt lv st) : Z X kc ks mem pc lv (.int (iI x) :: st) := by
  intro D cI cL ad ad0 n0 A p e s m args below meth c H locs ls hd hB hWd hag hn hA hS hl
  obtain ⟨g1, rfl⟩ := zI_dec hd h
  exact lv_tableIn hB.1 hB.2.1 g1 (by rw [iI_t hx]; exact h1) (by rw [iI_t hx]; exact h2) (by rw [iI_t hx]; exact ho) ht (kk D cI cL ad ad0 n0 A p e s m args below meth c H locs ls hd hB hWd hag hn hA hS hl)
theorem Z_tabOut (k : Nat) {dflt lo hi x : Int} {offs : Array Int} {len tgt : Nat} (h : X.I[k]? = some (pc, .tableswitch dflt lo hi offs, len, n)) (hx : inI x) (h1 : x < lo ∨ hi < x) (ht : (pc : Int) + dflt = (tgt : Int)) (kk : Z X kc ks mem tgt lv st) : Z X kc ks mem pc lv (.int (iI x) :: st) := by
  intro D cI cL ad ad0 n0 A p e s m args below meth c H locs ls hd hB hWd hag hn hA hS hl
  obtain ⟨g1, rfl⟩ := zI_dec hd h
  exact lv_tableOut hB.1 hB.2.1 g1 (by rw [iI_t hx]; exact h1) ht (kk D cI cL ad ad0 n0 A p e s m args below meth c H locs ls hd hB hWd hag hn hA hS hl)
/-- a method's end -/
theorem zend {D : va_G} {cI cL : ClassId} {ad ad0 : Nat → Nat} {n0 : Nat} {A : Nat → Prop} {s : State} {args : Array Value} {H : Heap} {locs : List Loc} (hWd : zW D cI cL ad A s H mem) (hag : zAg X.al n0 ad ad0) (hn : n0 ≤ mem.length) (hS : va_S A s.heap H locs) {r : Option Value} (hQ : X.Q r mem) : ∀ t : State, t.heap = H → s.WarmedH t.vm → zQ X.al X.Q D cI cL A ad0 n0 args s (.returned (r.map (zv ad))) t :=
  fun t ht hW => ⟨r, mem, ad, rfl, hQ, hag, hn, by rw [ht]; exact hWd.moved hW, hS.F ht⟩
theorem Z_iret (k : Nat) {v : Int32} (h : X.I[k]? = some (pc, .ireturn, 1, n)) (hr : X.M.2.2.2.1 = some .int) (hm : kc ≤ X.mc ∧ ks ≤ X.ms) (hQ : X.Q (some (.int v)) mem) : Z X kc ks mem pc lv [.int v] := by
  intro D cI cL ad ad0 n0 A p e s m args below meth c H locs ls hd hB hWd hag hn hA hS hl
  obtain ⟨h1, rfl⟩ := zI_dec hd h
  refine W.widen hm.1 hm.2 ?_
  exact W.iret hB.1 hB.2.1 (hB.2.2.2.1.trans hr) (zend hWd hag hn hS hQ) hS.2.2 h1 hB.2.2.2.2.1
theorem Z_zret (k : Nat) {v : Int32} {ty : FieldType} (h : X.I[k]? = some (pc, .ireturn, 1, n)) (hr : X.M.2.2.2.1 = some ty) (hv : narrow ty (.int v) = .int v) (hm : kc ≤ X.mc ∧ ks ≤ X.ms) (hQ : X.Q (some (.int v)) mem) : Z X kc ks mem pc lv [.int v] := by
  intro D cI cL ad ad0 n0 A p e s m args below meth c H locs ls hd hB hWd hag hn hA hS hl
  obtain ⟨h1, rfl⟩ := zI_dec hd h
  refine W.widen hm.1 hm.2 ?_
  exact W.zret hB.1 hB.2.1 (hB.2.2.2.1.trans hr) hv (zend hWd hag hn hS hQ) hS.2.2 h1 hB.2.2.2.2.1
theorem Z_lret (k : Nat) {v : Int64} (h : X.I[k]? = some (pc, .lreturn, 1, n)) (hr : X.M.2.2.2.1 = some .long) (hm : kc ≤ X.mc ∧ ks ≤ X.ms) (hQ : X.Q (some (.long v)) mem) : Z X kc ks mem pc lv [.long v] := by
  intro D cI cL ad ad0 n0 A p e s m args below meth c H locs ls hd hB hWd hag hn hA hS hl
  obtain ⟨h1, rfl⟩ := zI_dec hd h
  refine W.widen hm.1 hm.2 ?_
  exact W.lret hB.1 hB.2.1 (hB.2.2.2.1.trans hr) (zend hWd hag hn hS hQ) hS.2.2 h1 hB.2.2.2.2.1
theorem Z_vret (k : Nat) (h : X.I[k]? = some (pc, .return_, 1, n)) (hr : X.M.2.2.2.1 = none) (hm : kc ≤ X.mc ∧ ks ≤ X.ms) (hQ : X.Q none mem) : Z X kc ks mem pc lv [] := by
  intro D cI cL ad ad0 n0 A p e s m args below meth c H locs ls hd hB hWd hag hn hA hS hl
  obtain ⟨h1, rfl⟩ := zI_dec hd h
  refine W.widen hm.1 hm.2 ?_
  exact W.vret hB.1 hB.2.1 (hB.2.2.2.1.trans hr) (zend (r := none) hWd hag hn hS hQ) hS.2.2 h1 hB.2.2.2.2.1
theorem Z_aret (k : Nat) {q : Nat} {C : String} (h : X.I[k]? = some (pc, .areturn, 1, n)) (hr : X.M.2.2.2.1 = some (.object C)) (hm : kc ≤ X.mc ∧ ks ≤ X.ms) (hQ : X.Q (some (.ref q)) mem) : Z X kc ks mem pc lv [.ref q] := by
  intro D cI cL ad ad0 n0 A p e s m args below meth c H locs ls hd hB hWd hag hn hA hS hl
  obtain ⟨h1, rfl⟩ := zI_dec hd h
  refine W.widen hm.1 hm.2 ?_
  exact W.aret hB.1 hB.2.1 (hB.2.2.2.1.trans hr) (Or.inl ⟨_, rfl⟩) (Or.inr ⟨_, rfl⟩) (zend (r := some (.ref q)) hWd hag hn hS hQ) hS.2.2 h1 hB.2.2.2.2.1
end ZH
/-- a contract from the walk of the method's body -/
theorem Con.of_Z {l : Launch} {M : zM} {rm : Room} {mc ms : Nat} {al : Bool} {av : List Value} {mem : List zE} {Q : Option Value → List zE → Prop} (hy : plainName M.1.cls = true) (hd : zDec M) (hlen : (lg_sl av).length ≤ M.2.2.1) (h : Z (l, M, rm, (mc, ms), al, Q) 0 0 mem 0 (lv_args 0 av) []) : Con l M rm mc ms al av mem Q := by
  intro D cI cL ad0 sz
  refine Met.ofW (cc := M.2.1) (maxL := M.2.2.1) (ret := M.2.2.2.1) hy rfl ?_
  intro p e s m args below meth c s₁ B hml hv
  obtain ⟨rfl, hsz, hWd, hK, hNW⟩ := hv
  have hts := atoms_spec (ws := zws M) B.pre
  have hown : s.vm.findClass M.1.cls = some m.cls := findClass_of_methodNamed B.named
  have hin : meth.name = M.1.name := (name_of_methodNamed B.named B.method).1
  subst hsz
  have hl := lv_entry (av.map (zv ad0)) (n := M.2.2.1) (by rw [lg_sl_zv]; exact hlen)
  rw [lv_args_zv] at hl
  rw [lg_entry_eq]
  exact h D cI cL ad0 ad0 mem.length (zA mem ad0 s.heap.size) p e s m _ below meth c s.heap [] _ hd ⟨B.exec, B.bytes, hml, B.returns, B.notSynchronized, hown, hin, fun w hw => hts w (List.mem_cons_of_mem _ hw), hNW, hK⟩ hWd zAg.rf (Nat.le_refl _) (fun q hq => Or.inr hq) va_S.rf hl
