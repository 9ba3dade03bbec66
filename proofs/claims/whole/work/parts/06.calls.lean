/-! calls: the callee's world is a part of the caller's, by places -/
def zr (is : List Nat) : Nat → Nat := fun j => is.getD j 0
def renE (f : Nat → Nat) : zE → zE
  | .inl o => .inl (o.1, o.2.map (zv f))
  | .inr (.inl x) => .inr (.inl x)
  | .inr (.inr (.inl x)) => .inr (.inr (.inl x))
  | .inr (.inr (.inr (.inl x))) => .inr (.inr (.inr (.inl x)))
  | .inr (.inr (.inr (.inr (.inl x)))) => .inr (.inr (.inr (.inr (.inl x))))
  | .inr (.inr (.inr (.inr (.inr (.inl x))))) => .inr (.inr (.inr (.inr (.inr (.inl (x.1, f x.2))))))
  | .inr (.inr (.inr (.inr (.inr (.inr (.inl l)))))) => .inr (.inr (.inr (.inr (.inr (.inr (.inl (l.map (fun q => (q.1, q.2.1, q.2.2.1, zv f q.2.2.2)))))))))
  | .inr (.inr (.inr (.inr (.inr (.inr (.inr u)))))) => .inr (.inr (.inr (.inr (.inr (.inr (.inr u))))))
theorem zv_zv (f g : Nat → Nat) (v : Value) : zv f (zv g v) = zv (fun j => f (g j)) v := by cases v <;> rfl
theorem renE_rw (f : Nat → Nat) (e : zE) : zrw (renE f e) = zrw e := by rcases e with o | x | x | x | x | x | x | x <;> rfl
theorem zat_ren {D : va_G} {cI cL : ClassId} {ad : Nat → Nat} {f : Nat → Nat} {A : Nat → Prop} {U : State} {H : Heap} {a : Nat} {e : zE} : zat D cI cL ad A U H a (renE f e) ↔ zat D cI cL (fun j => ad (f j)) A U H a e := by
  rcases e with o | x | x | x | x | x | x | x
  · have e1 : (o.2.map (zv f)).map (zv ad) = o.2.map (zv (fun j => ad (f j))) := by
      rw [List.map_map]
      exact List.map_congr_left (fun v _ => zv_zv ad f v)
    show (A a ∧ ∃ r : vw_C, zCls[o.1]? = some r ∧ t_OB a (D.1 o.1) r.2.2 (D.2 o.1) H (vp_V ((o.2.map (zv f)).map (zv ad)))) ↔ _
    rw [e1]
    exact Iff.rfl
  · exact Iff.rfl
  · exact Iff.rfl
  · exact Iff.rfl
  · exact Iff.rfl
  · exact Iff.rfl
  · constructor
    · intro h
      refine ⟨fun q hq => ?_, h.2⟩
      have := h.1 (q.1, q.2.1, q.2.2.1, zv f q.2.2.2) (List.mem_map.mpr ⟨q, hq, rfl⟩)
      dsimp only at this
      rw [zv_zv] at this
      exact this
    · intro h
      refine ⟨fun q hq => ?_, h.2⟩
      obtain ⟨q0, h1, rfl⟩ := List.mem_map.mp hq
      have := h.1 q0 h1
      dsimp only
      rw [zv_zv]
      exact this
  · exact Iff.rfl
/-- a cell of the callee's world: the same one, or the caller's row read only -/
def zSub (o : Option zE) (e : zE) : Prop := o = some e ∨ ∃ (N : Nat) (F : Int → Int), e = aR N F ∧ o = some (aI N F) ∧ N < 2147483648
def zEL (mem : List zE) (f : Nat → Nat) : List Nat → List zE → Prop
  | i :: is, e :: sub => zSub (mem[i]?) (renE f e) ∧ zEL mem f is sub
  | [], [] => True
  | _, _ => False
def zEmb (is : List Nat) (mem sub : List zE) : Prop := is.Nodup ∧ zEL mem (zr is) is sub
theorem zEL_at {mem : List zE} {f : Nat → Nat} : ∀ {is : List Nat} {sub : List zE}, zEL mem f is sub → is.length = sub.length ∧ ∀ (j : Nat) (e : zE), sub[j]? = some e → ∃ i, is[j]? = some i ∧ zSub (mem[i]?) (renE f e) := by
  intro is
  induction is with
  | nil =>
    intro sub h
    cases sub with
    | nil => exact ⟨rfl, fun j e h => by simp at h⟩
    | cons e sub => exact h.elim
  | cons i is ih =>
    intro sub h
    cases sub with
    | nil => exact h.elim
    | cons e0 sub =>
      obtain ⟨h1, h2⟩ := ih h.2
      refine ⟨by simp [h1], fun j e hj => ?_⟩
      cases j with
      | zero =>
        simp at hj
        subst hj
        exact ⟨i, rfl, h.1⟩
      | succ j =>
        simp at hj
        obtain ⟨i2, g1, g2⟩ := h2 j e hj
        exact ⟨i2, by simpa using g1, g2⟩
theorem zr_at {is : List Nat} {j i : Nat} (h : is[j]? = some i) : zr is j = i := by
  simp [zr, List.getD_eq_getElem?_getD, h]
theorem nodup_at {is : List Nat} (h : is.Nodup) {i j k : Nat} (hi : is[i]? = some k) (hj : is[j]? = some k) : i = j := by
  have h1 := (List.getElem?_eq_some_iff.mp hi).1
  exact (List.getElem?_inj h1 h).mp (hi.trans hj.symm)
theorem aR_of_ren {f : Nat → Nat} {e : zE} {N : Nat} {F : Int → Int} (h : renE f e = aR N F) : e = aR N F := by
  rcases e with o | x | x | x | x | x | x | x <;> first | exact h | cases h
theorem zW.sub {D : va_G} {cI cL : ClassId} {ad : Nat → Nat} {A : Nat → Prop} {s : State} {H : Heap} {mem sub : List zE} {is : List Nat} (hK : va_K D zCls [(cI, .int), (cL, .long)] s) (hWd : zW D cI cL ad A s H mem) (hE : zEmb is mem sub) :
    zW D cI cL (fun j => ad (zr is j)) (zA sub (fun j => ad (zr is j)) H.size) s H sub := by
  obtain ⟨hnd, hel⟩ := hE
  obtain ⟨hlen, hat⟩ := zEL_at hel
  -- a cell of the callee that may be written is one of the caller's
  have hrwc : ∀ (j : Nat) (e : zE), sub[j]? = some e → zrw e = true → ∃ i, is[j]? = some i ∧ mem[i]? = some (renE (zr is) e) ∧ A (ad i) := by
    intro j e hj he
    obtain ⟨i, h1, h2⟩ := hat j e hj
    rcases h2 with h2 | ⟨N, F, h2, -⟩
    · exact ⟨i, h1, h2, zat_in (hWd.1 i _ h2) (by rw [renE_rw]; exact he)⟩
    · rw [aR_of_ren h2] at he
      cases he
  have harea : ∀ q, q < H.size → ¬ A q → ¬ zA sub (fun j => ad (zr is j)) H.size q := by
    intro q hq hA hB
    rcases hB with ⟨j, e, h1, h2, h3⟩ | hB
    · obtain ⟨i, g1, g2, g3⟩ := hrwc j e h1 h2
      dsimp only at h3
      rw [zr_at g1] at h3
      exact hA (h3 ▸ g3)
    · omega
  refine ⟨fun j e hj => ?_, fun i j x y hi hj hx hy hxy => ?_⟩
  · obtain ⟨i, h1, h2⟩ := hat j e hj
    dsimp only
    rw [zr_at h1]
    rcases h2 with h2 | ⟨N, F, h2, h3, h4⟩
    · refine zat_area (zat_ren.mp (hWd.1 i _ h2)) harea (fun he => Or.inl ⟨j, e, hj, he, ?_⟩)
      dsimp only
      rw [zr_at h1]
    · have he := aR_of_ren h2
      subst he
      obtain ⟨g1, g2⟩ := hWd.1 i _ h3
      refine ⟨_, g2, (hK.2 0 _ rfl).1 N (fun j => .int (iI (F (j : Int)))), (fun z => by cases z), ?_, ?_, ?_, ?_⟩
      · show N ≤ (arrV _ _ _).slots.size
        rw [arrV_size]
        exact Nat.le_refl _
      · show (arrV _ _ _).slots.size.toInt32 = _
        rw [arrV_size]
      · intro k hk
        show (arrV _ _ _).slots[k]? = _
        rw [arrV_read _ _ hk]
      · rintro (⟨j2, e2, k1, k2, k3⟩ | hB)
        · obtain ⟨i2, l1, l2, l3⟩ := hrwc j2 e2 k1 k2
          dsimp only at k3
          rw [zr_at l1] at k3
          have := hWd.2 i2 i _ _ l2 h3 (by rw [renE_rw]; exact k2) rfl k3
          subst this
          have := nodup_at hnd l1 h1
          subst this
          rw [k1] at hj
          cases hj
          cases k2
        · have := (Array.getElem?_eq_some_iff.mp g2).1
          omega
  · obtain ⟨i', a1, a2, a3⟩ := hrwc i x hi hx
    obtain ⟨j', b1, b2, b3⟩ := hrwc j y hj hy
    dsimp only at hxy
    rw [zr_at a1, zr_at b1] at hxy
    have := hWd.2 i' j' _ _ a2 b2 (by rw [renE_rw]; exact hx) (by rw [renE_rw]; exact hy) hxy
    subst this
    exact nodup_at hnd a1 b1
/-- the caller's world behind a call -/
def zMg (f : Nat → Nat) : List Nat → List zE → List zE → List zE
  | i :: is, e :: out, mem => zMg f is out (if zrw e = true then mem.set i (renE f e) else mem)
  | _, _, mem => mem
theorem zMg_len (f : Nat → Nat) : ∀ (is : List Nat) (out mem : List zE), (zMg f is out mem).length = mem.length := by
  intro is
  induction is with
  | nil => intro out mem; rfl
  | cons i is ih =>
    intro out mem
    cases out with
    | nil => rfl
    | cons e out =>
      unfold zMg
      rw [ih]
      split <;> simp
theorem zMg_at {f : Nat → Nat} : ∀ {is : List Nat} {out mem : List zE} {k : Nat} {x : zE}, is.Nodup → (zMg f is out mem)[k]? = some x → (∃ (j : Nat) (e : zE), is[j]? = some k ∧ out[j]? = some e ∧ zrw e = true ∧ x = renE f e) ∨ (mem[k]? = some x ∧ ∀ (j : Nat) (e : zE), is[j]? = some k → out[j]? = some e → zrw e = false) := by
  intro is
  induction is with
  | nil =>
    intro out mem k x _ h
    exact Or.inr ⟨h, fun j e h => by simp at h⟩
  | cons i is ih =>
    intro out mem k x hnd h
    cases out with
    | nil => exact Or.inr ⟨h, fun j e _ h => by simp at h⟩
    | cons e out =>
      unfold zMg at h
      have hnd2 := List.nodup_cons.mp hnd
      rcases ih hnd2.2 h with ⟨j, e1, h1, h2, h3, h4⟩ | ⟨h1, h2⟩
      · exact Or.inl ⟨j + 1, e1, by simpa using h1, by simpa using h2, h3, h4⟩
      · by_cases hki : k = i
        · subst hki
          by_cases he : zrw e = true
          · rw [if_pos he] at h1
            have hl := (List.getElem?_eq_some_iff.mp h1).1
            rw [List.length_set] at hl
            rw [List.getElem?_set_self hl] at h1
            cases h1
            exact Or.inl ⟨0, e, rfl, rfl, he, rfl⟩
          · rw [if_neg he] at h1
            refine Or.inr ⟨h1, fun j e1 g1 g2 => ?_⟩
            cases j with
            | zero =>
              simp at g2
              subst g2
              simpa using he
            | succ j => exact h2 j e1 (by simpa using g1) (by simpa using g2)
        · refine Or.inr ⟨?_, fun j e1 g1 g2 => ?_⟩
          · split at h1
            · rw [List.getElem?_set_ne (Ne.symm hki)] at h1
              exact h1
            · exact h1
          · cases j with
            | zero =>
              simp at g1
              exact absurd g1.symm hki
            | succ j => exact h2 j e1 (by simpa using g1) (by simpa using g2)
theorem zat_rwU {D : va_G} {cI cL : ClassId} {ad : Nat → Nat} {A B : Nat → Prop} {u U : State} {H : Heap} {a : Nat} {e : zE} (he : zrw e = true) (hA : A a) (h : zat D cI cL ad B u H a e) : zat D cI cL ad A U H a e := by
  rcases e with o | x | x | x | x | x | x | x
  · exact ⟨hA, h.2⟩
  · exact ⟨hA, h.2⟩
  · exact ⟨hA, h.2⟩
  all_goals (cases he)
theorem zW.back {D : va_G} {cI cL : ClassId} {ad : Nat → Nat} {A : Nat → Prop} {s t : State} {H H1 : Heap} {mem sub out : List zE} {is : List Nat} (hK : va_K D zCls [(cI, .int), (cL, .long)] s) (hWd : zW D cI cL ad A s H mem) (hE : zEmb is mem sub) (hlen : sub.length ≤ out.length)
    (h1 : zW D cI cL (fun j => ad (zr is j)) (zA sub (fun j => ad (zr is j)) H.size) t H1 out) (hz : H.size ≤ H1.size) (hk : ∀ q : Nat, q < H.size → ¬ zA sub (fun j => ad (zr is j)) H.size q → H1[q]? = H[q]?) : zW D cI cL ad A s H1 (zMg (zr is) is out mem) := by
  have hsub := zW.sub hK hWd hE
  obtain ⟨hnd, hel⟩ := hE
  obtain ⟨hlen0, hat⟩ := zEL_at hel
  -- the callee's cells are of one kind before and behind
  have hkind : ∀ (j : Nat) (x y : zE), sub[j]? = some x → out[j]? = some y → zrw x = zrw y := by
    intro j x y hx hy
    have a1 := hsub.1 j x hx
    have a2 := h1.1 j y hy
    cases hx1 : zrw x <;> cases hy1 : zrw y
    · rfl
    · exact absurd (zat_in a2 hy1) (zat_out a1 hx1)
    · exact absurd (zat_in a1 hx1) (zat_out a2 hy1)
    · rfl
  have hmem : ∀ (j k : Nat) (x : zE), is[j]? = some k → sub[j]? = some x → zrw x = true → mem[k]? = some (renE (zr is) x) ∧ A (ad k) := by
    intro j k x hj hx hrw
    obtain ⟨i, g1, g2⟩ := hat j x hx
    rw [hj] at g1
    cases g1
    rcases g2 with g2 | ⟨N, F, g2, -⟩
    · exact ⟨g2, zat_in (hWd.1 k _ g2) (by rw [renE_rw]; exact hrw)⟩
    · rw [aR_of_ren g2] at hrw
      cases hrw
  have hsubat : ∀ (j k : Nat), is[j]? = some k → ∃ x, sub[j]? = some x := by
    intro j k hj
    have := (List.getElem?_eq_some_iff.mp hj).1
    exact ⟨_, List.getElem?_eq_getElem (by omega)⟩
  refine ⟨fun k x hx => ?_, fun i j x y hi hj hxr hyr hxy => ?_⟩
  · rcases zMg_at hnd hx with ⟨j, e, g1, g2, g3, rfl⟩ | ⟨g1, g2⟩
    · obtain ⟨x0, hx0⟩ := hsubat j k g1
      obtain ⟨m1, m2⟩ := hmem j k x0 g1 hx0 (by rw [hkind j x0 e hx0 g2]; exact g3)
      have := h1.1 j e g2
      dsimp only at this
      rw [zr_at g1] at this
      exact zat_rwU (by rw [renE_rw]; exact g3) m2 (zat_ren.mpr this)
    · have hx0 := hWd.1 k x g1
      refine zat_kept hx0 hz (fun q hq hA => hk q hq ?_) (fun hrw => hk _ (zat_lt hx0) ?_)
      · rintro (⟨j, e, k1, k2, k3⟩ | hB)
        · obtain ⟨i, l1⟩ : ∃ i, is[j]? = some i := ⟨_, List.getElem?_eq_getElem (by have := (List.getElem?_eq_some_iff.mp k1).1; omega)⟩
          dsimp only at k3
          rw [zr_at l1] at k3
          exact hA (k3 ▸ (hmem j i e l1 k1 k2).2)
        · omega
      · rintro (⟨j, e, k1, k2, k3⟩ | hB)
        · obtain ⟨i, l1⟩ : ∃ i, is[j]? = some i := ⟨_, List.getElem?_eq_getElem (by have := (List.getElem?_eq_some_iff.mp k1).1; omega)⟩
          dsimp only at k3
          rw [zr_at l1] at k3
          obtain ⟨m1, m2⟩ := hmem j i e l1 k1 k2
          have := hWd.2 i k _ _ m1 g1 (by rw [renE_rw]; exact k2) hrw k3
          subst this
          obtain ⟨y, hy⟩ : ∃ y, out[j]? = some y := ⟨_, List.getElem?_eq_getElem (by have := (List.getElem?_eq_some_iff.mp k1).1; omega)⟩
          have := g2 j y l1 hy
          rw [← hkind j e y k1 hy, k2] at this
          cases this
        · have := zat_lt hx0
          omega
  · have key : ∀ (k : Nat) (x : zE), (zMg (zr is) is out mem)[k]? = some x → zrw x = true → ∃ x0, mem[k]? = some x0 ∧ zrw x0 = true := by
      intro k x hx hr
      rcases zMg_at hnd hx with ⟨j, e, g1, g2, g3, rfl⟩ | ⟨g1, g2⟩
      · obtain ⟨x0, hx0⟩ := hsubat j k g1
        have hr0 : zrw x0 = true := by rw [hkind j x0 e hx0 g2]; exact g3
        exact ⟨_, (hmem j k x0 g1 hx0 hr0).1, by rw [renE_rw]; exact hr0⟩
      · exact ⟨x, g1, hr⟩
    obtain ⟨x0, a1, a2⟩ := key i x hi hxr
    obtain ⟨y0, b1, b2⟩ := key j y hj hyr
    exact hWd.2 i j x0 y0 a1 b1 a2 b2 hxy
/-- a method that may be called: its words -/
def zCb (M : zM) (nargs : Nat) : Prop := Cond.initialized M.1.cls ∈ zTB ∧ Cond.code M.1 M.2.1 M.2.2.1 M.2.2.2.1 ∈ zTB ∧ (M.1.cls ≠ "java/lang/invoke/MethodHandle" ∧ M.1.cls ≠ "java/lang/invoke/VarHandle" ∧ (parseMethodDescriptor M.1.desc).map (fun d => d.parameters.length) = some nargs)
def zCv (M : zM) (nargs : Nat) : Prop := zCb M nargs ∧ Cond.instanceMethod M.1 ∈ zTB ∧ Cond.selects M.1.cls M.1 M.1 ∈ zTB
def zCs (M : zM) (nargs : Nat) : Prop := zCb M nargs ∧ Cond.static M.1 ∈ zTB
def zCi (M : zM) (nargs : Nat) : Prop := zCb M nargs ∧ Cond.instanceMethod M.1 ∈ zTB ∧ M.1.name = "<init>" ∧ M.2.2.2.1 = none
theorem zGood {ws : List Cond} (h : ∀ w ∈ ws, w ∈ zTB) : GoodIn zTB ws := fun w hw => ⟨h w hw, good_of_word (zTB_good (h w hw))⟩
theorem zws_in {M : zM} {n : Nat} (h : zCb M n) : ∀ w ∈ zws M, w ∈ zTB := by
  intro w hw
  rcases List.mem_cons.mp hw with rfl | hw
  · exact h.2.1
  · exact hw
theorem zcat_sum (ad : Nat → Nat) (st : List Value) : ((st.map (zv ad)).map fun v => v.category).sum = (st.map fun v => v.category).sum := by
  rw [List.map_map]
  congr 1
  exact List.map_congr_left (fun v _ => zv_cat ad v)
/-- what a callee's start asks, out of the caller's world -/
theorem zPc_of {l : Launch} {D : va_G} {cI cL : ClassId} {ad : Nat → Nat} {A : Nat → Prop} {s : State} {H : Heap} {mem sub : List zE} {is : List Nat} {av : List Value} (hK : va_K D zCls [(cI, .int), (cL, .long)] s) (hNW : ∀ w ∈ zNW, va_Nw w s) (hWd : zW D cI cL ad A s H mem) (hE : zEmb is mem sub) : ∀ U : State, U.heap = H → s.WarmedH U.vm →
    va_Pc (av.map (zv (fun j => ad (zr is j)))) (fun U => U.heap.size = H.size ∧ zW D cI cL (fun j => ad (zr is j)) (zA sub (fun j => ad (zr is j)) H.size) U U.heap sub ∧ va_K D zCls [(cI, .int), (cL, .long)] U ∧ ∀ w ∈ zNW, va_Nw w U) ((av.map (zv (fun j => ad (zr is j)))).toArray) U := by
  intro U hU hW
  refine ⟨rfl, by rw [hU], ?_, va_K.moved hW.alike hK, fun w hw => ?_⟩
  · rw [hU]
    exact (zW.sub hK hWd hE).moved hW
  · have h1 := zNW_nest hw
    have h2 := hNW w hw
    cases w <;> first | exact va_Nw.warmF hW h2 | exact va_Nw.warmM hW h2 | (exact absurd h1 (by simp [zIsNest]))
theorem zPc_blind {D : va_G} {cI cL : ClassId} {ad0 : Nat → Nat} {A : Nat → Prop} {sz : Nat} {mem : List zE} {av : List Value} : FrameBlind (va_Pc av (fun U => U.heap.size = sz ∧ zW D cI cL ad0 A U U.heap mem ∧ va_K D zCls [(cI, .int), (cL, .long)] U ∧ ∀ w ∈ zNW, va_Nw w U)) := by
  intro a U g mk h
  obtain ⟨h1, h2, h3, h4, h5⟩ := h
  refine ⟨h1, h2, zW.same (u := U) (U := U.calling g mk a) rfl h3, va_K.moved (u := U) (U := U.calling g mk a) (Vm.Alike.refl U.vm) h4, fun w hw => ?_⟩
  have g1 := zNW_nest hw
  have g2 := h5 w hw
  cases w <;> first | exact va_Nw.same (u := U) rfl rfl g2 | (exact absurd g1 (by simp [zIsNest]))
section ZC
variable {p : Program} {l : Launch} {e : Env} {R : Room} {s : State} {m : MethodId} {args : Array Value} {below : List Frame} {meth : Method} {c : Code} {H : Heap} {locs : List Loc} {cells slots : Nat} {Q : State → Prop}
variable {pc : Nat} {ls : Array Slot} {rest st0 : List Value} {a : Array Value} {A B : Nat → Prop} {mc ms n0 : Nat} {al : Bool} {D : va_G} {cI cL : ClassId} {ad0 : Nat → Nat}
theorem zcallW {Q' : Option Value → List zE → Prop} (hr : va_Run p l e R s m args below meth c H locs cells slots mc ms (F0 m pc ls st0) rest (zQ al Q' D cI cL B ad0 n0 a) B) (hS : va_S A s.heap H locs) (hBA : ∀ q, B q → A q)
    (kk : ∀ (r : Option Value) (out : List zE) (ad1 : Nat → Nat) (t : State) (H1 : Heap) (locs1 : List Loc), Q' r out → zAg al n0 ad1 ad0 → n0 ≤ out.length → zW D cI cL ad1 B t H1 out → H.size ≤ H1.size → (∀ q : Nat, q < H.size → ¬ B q → H1[q]? = H[q]?) → va_S A s.heap H1 locs1 → W p l e R s m args below meth c H1 locs1 (cells + mc) (slots + ms) Q (F0 m (pc + 3) ls ((r.map (zv ad1)).toList ++ rest))) : W p l e R s m args below meth c H locs cells slots Q (F0 m pc ls st0) := by
  intro T hT X
  obtain ⟨v, st₀, t, T', L, h0, X', hL, e1, e2, ⟨r, out, ad1, hv, hq, hag, hn, hWd, hz, hk⟩, st⟩ := hr T hT X
  cases hv
  rw [h0] at hz hk
  obtain ⟨t2, a1, b1⟩ := kk r out ad1 t T'.heap (locs ++ L) hq hag hn (by rw [e1]; exact hWd) (by rw [e1]; exact hz) (fun q h1 h2 => by rw [e1]; exact hk q h1 h2)
    ⟨Nat.le_trans hS.1 (by rw [e1]; exact hz), fun q h1 h2 => by rw [e1, hk q (Nat.lt_of_lt_of_le h1 hS.1) (fun z => h2 (hBA q z))]; exact hS.2.1 q h1 h2, fun q hq => by
      rcases List.mem_append.mp hq with h | h
      · exact hS.2.2 q h
      · exact hBA _ (hL q h)⟩ T' rfl X'
  exact ⟨t2, st t2 a1, b1⟩
end ZC
theorem zA_sub {D : va_G} {cI cL : ClassId} {ad : Nat → Nat} {A : Nat → Prop} {s : State} {H : Heap} {mem sub : List zE} {is : List Nat} (hWd : zW D cI cL ad A s H mem) (hE : zEmb is mem sub) (hA : ∀ q, s.heap.size ≤ q → A q) (hz : s.heap.size ≤ H.size) : ∀ q, zA sub (fun j => ad (zr is j)) H.size q → A q := by
  rintro q (⟨j, e, h1, h2, h3⟩ | h)
  · obtain ⟨hlen, hat⟩ := zEL_at hE.2
    obtain ⟨i, g1, g2⟩ := hat j e h1
    dsimp only at h3
    rw [zr_at g1] at h3
    rcases g2 with g2 | ⟨N, F, g2, -⟩
    · exact h3 ▸ zat_in (hWd.1 i _ g2) (by rw [renE_rw]; exact h2)
    · rw [aR_of_ren g2] at h2
      cases h2
  · exact hA q (by omega)
def zRv (mem : List zE) (b : Nat) (C : String) : Prop := (∃ (ci : Nat) (fs : List Value) (T : u_T) (N : Nat), mem[b]? = some (zO ci fs) ∧ zCls[ci]? = some (C, T, N)) ∨ (∃ (i j : Nat), mem[b]? = some (zS i j) ∧ C = "java/lang/String")
theorem zRv_cell {D : va_G} {cI cL : ClassId} {ad : Nat → Nat} {A : Nat → Prop} {s : State} {H : Heap} {mem : List zE} {b : Nat} {C : String} (hK : va_K D zCls [(cI, .int), (cL, .long)] s) (hWd : zW D cI cL ad A s H mem) (h : zRv mem b C) : ∃ cell : Cell, H[ad b]? = some cell ∧ cell.vm.isStatics = false ∧ s.vm.findClass C = some cell.cls := by
  rcases h with ⟨ci, fs, T, N, h1, h2⟩ | ⟨i, j, h1, rfl⟩
  · exact va_recv hK (zP1 (hWd.1 b _ h1)) (ci := ci) (q0 := 0) h2 rfl
  · obtain ⟨cell, g1, g2, g3, g4⟩ := (hWd.1 b _ h1).2.1
    exact ⟨cell, g1, g2, g3⟩
