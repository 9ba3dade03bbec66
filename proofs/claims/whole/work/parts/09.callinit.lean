/-! calls of constructors: the callee makes cells, they come behind the caller's -/
def zfr (is : List Nat) (n L : Nat) : Nat → Nat := fun j => if j < n then zr is j else L + (j - n)
theorem zW.backA {D : va_G} {cI cL : ClassId} {ad ad1 : Nat → Nat} {A : Nat → Prop} {s t : State} {H H1 : Heap} {mem sub out : List zE} {is : List Nat} (hK : va_K D zCls [(cI, .int), (cL, .long)] s) (hWd : zW D cI cL ad A s H mem) (hE : zEmb is mem sub) (hlen : sub.length ≤ out.length) (hag : ∀ j, j < sub.length → ad1 j = ad (zr is j)) (hsc : mem.all (zsE mem.length) = true) (hrw : (out.drop sub.length).all zrw = true) (hBA : ∀ q, zA sub (fun j => ad (zr is j)) H.size q → A q)
    (h1 : zW D cI cL ad1 (zA sub (fun j => ad (zr is j)) H.size) t H1 out) (hz : H.size ≤ H1.size) (hk : ∀ q : Nat, q < H.size → ¬ zA sub (fun j => ad (zr is j)) H.size q → H1[q]? = H[q]?) :
    zW D cI cL (fun k => if k < mem.length then ad k else ad1 (sub.length + (k - mem.length))) A s H1 (zMg (zfr is sub.length mem.length) is out mem ++ (out.drop sub.length).map (renE (zfr is sub.length mem.length))) := by
  have hsub := zW.sub hK hWd hE
  obtain ⟨hnd, hel⟩ := hE
  obtain ⟨hlen0, hat⟩ := zEL_at hel
  have hkind : ∀ (j : Nat) (x y : zE), sub[j]? = some x → out[j]? = some y → zrw x = zrw y := by
    intro j x y hx hy
    have a1 := hsub.1 j x hx
    have a2 := h1.1 j y hy
    rw [hag j (List.getElem?_eq_some_iff.mp hx).1] at a2
    cases hx1 : zrw x <;> cases hy1 : zrw y
    · rfl
    · exact absurd (zat_in a2 hy1) (zat_out a1 hx1)
    · exact absurd (zat_in a1 hx1) (zat_out a2 hy1)
    · rfl
  have hmem : ∀ (j k : Nat) (x : zE), is[j]? = some k → sub[j]? = some x → zrw x = true → mem[k]? = some (renE (zr is) x) ∧ A (ad k) := by
    intro j k x hj hx hrw
    obtain ⟨i, g1, g2⟩ := hat j x hx
    rw [hj] at g1
    cases g1
    rcases g2 with g2 | ⟨N, F, g2, -⟩
    · exact ⟨g2, zat_in (hWd.1 k _ g2) (by rw [renE_rw]; exact hrw)⟩
    · rw [aR_of_ren g2] at hrw
      cases hrw
  have hisl : ∀ (j k : Nat), is[j]? = some k → k < mem.length := by
    intro j k hj
    have hj1 := (List.getElem?_eq_some_iff.mp hj).1
    obtain ⟨i, g1, g2⟩ := hat j _ (List.getElem?_eq_getElem (by omega))
    rw [hj] at g1
    cases g1
    rcases g2 with g2 | ⟨N, F, -, g2, -⟩
    · exact (List.getElem?_eq_some_iff.mp g2).1
    · exact (List.getElem?_eq_some_iff.mp g2).1
  have hsubat : ∀ (j k : Nat), is[j]? = some k → ∃ x, sub[j]? = some x := by
    intro j k hj
    have := (List.getElem?_eq_some_iff.mp hj).1
    exact ⟨_, List.getElem?_eq_getElem (by omega)⟩
  generalize hf : zfr is sub.length mem.length = f
  generalize had : (fun k => if k < mem.length then ad k else ad1 (sub.length + (k - mem.length))) = ad2
  have had_lo : ∀ k, k < mem.length → ad k = ad2 k := fun k hk => by
    rw [← had]
    show ad k = if k < mem.length then ad k else _
    rw [if_pos hk]
  have had_hi : ∀ k, ¬ k < mem.length → ad2 k = ad1 (sub.length + (k - mem.length)) := fun k hk => by
    rw [← had]
    show (if k < mem.length then ad k else _) = _
    rw [if_neg hk]
  have hcomp : (fun j => ad2 (f j)) = ad1 := by
    funext j
    rw [← hf]
    show ad2 (if j < sub.length then zr is j else mem.length + (j - sub.length)) = ad1 j
    by_cases hj : j < sub.length
    · rw [if_pos hj, hag j hj]
      obtain ⟨i, g1⟩ : ∃ i, is[j]? = some i := ⟨_, List.getElem?_eq_getElem (by omega)⟩
      rw [zr_at g1]
      exact (had_lo i (hisl j i g1)).symm
    · rw [if_neg hj, had_hi _ (by omega)]
      congr 1
      omega
  have hnew : ∀ (j : Nat) (y : zE), sub.length ≤ j → out[j]? = some y → zrw y = true → H.size ≤ ad1 j := by
    intro j y hj hy hr
    rcases zat_in (h1.1 j y hy) hr with ⟨i0, e0, k1, k2, k3⟩ | hB
    · exfalso
      have hi0 := (List.getElem?_eq_some_iff.mp k1).1
      obtain ⟨y0, hy0⟩ : ∃ y0, out[i0]? = some y0 := ⟨_, List.getElem?_eq_getElem (by omega)⟩
      have := h1.2 i0 j y0 y hy0 hy (by rw [← hkind i0 e0 y0 k1 hy0]; exact k2) hr ((hag i0 hi0).trans k3)
      omega
    · exact hB
  have hlm : (zMg f is out mem).length = mem.length := zMg_len f is out mem
  have hcell : ∀ (k : Nat) (x : zE), (zMg f is out mem ++ (out.drop sub.length).map (renE f))[k]? = some x → (k < mem.length ∧ (zMg f is out mem)[k]? = some x) ∨ (mem.length ≤ k ∧ ∃ y, out[sub.length + (k - mem.length)]? = some y ∧ x = renE f y ∧ zrw y = true) := by
    intro k x hx
    by_cases hkl : k < mem.length
    · rw [List.getElem?_append_left (by omega)] at hx
      exact Or.inl ⟨hkl, hx⟩
    · rw [List.getElem?_append_right (by omega), hlm, List.getElem?_map] at hx
      cases hy : (out.drop sub.length)[k - mem.length]? with
      | none => rw [hy] at hx; cases hx
      | some y =>
        rw [hy] at hx
        refine Or.inr ⟨by omega, y, ?_, (Option.some.inj hx).symm, List.all_eq_true.mp hrw y (List.mem_of_getElem? hy)⟩
        rw [List.getElem?_drop] at hy
        exact hy
  refine ⟨fun k x hx => ?_, fun i j x y hi hj hxr hyr hxy => ?_⟩
  · rcases hcell k x hx with ⟨hkl, hx1⟩ | ⟨hkl, y, hy, rfl, hr⟩
    · rcases zMg_at hnd hx1 with ⟨j, e, g1, g2, g3, rfl⟩ | ⟨g1, g2⟩
      · obtain ⟨x0, hx0⟩ := hsubat j k g1
        have hjl := (List.getElem?_eq_some_iff.mp hx0).1
        obtain ⟨m1, m2⟩ := hmem j k x0 g1 hx0 (by rw [hkind j x0 e hx0 g2]; exact g3)
        have := h1.1 j e g2
        rw [hag j hjl, zr_at g1, ← hcomp] at this
        rw [← had_lo k hkl]
        exact zat_rwU (by rw [renE_rw]; exact g3) m2 (zat_ren.mpr this)
      · have hx0 := hWd.1 k x g1
        rw [← had_lo k hkl]
        refine zat_agree had_lo (List.all_eq_true.mp hsc x (List.mem_of_getElem? g1)) ?_
        refine zat_kept hx0 hz (fun q hq hA => hk q hq (fun z => hA (hBA q z))) (fun hrw => hk _ (zat_lt hx0) ?_)
        rintro (⟨j, e, k1, k2, k3⟩ | hB)
        · obtain ⟨i, l1⟩ : ∃ i, is[j]? = some i := ⟨_, List.getElem?_eq_getElem (by have := (List.getElem?_eq_some_iff.mp k1).1; omega)⟩
          dsimp only at k3
          rw [zr_at l1] at k3
          obtain ⟨m1, m2⟩ := hmem j i e l1 k1 k2
          have := hWd.2 i k _ _ m1 g1 (by rw [renE_rw]; exact k2) hrw k3
          subst this
          obtain ⟨y, hy⟩ : ∃ y, out[j]? = some y := ⟨_, List.getElem?_eq_getElem (by have := (List.getElem?_eq_some_iff.mp k1).1; omega)⟩
          have := g2 j y l1 hy
          rw [← hkind j e y k1 hy, k2] at this
          cases this
        · have := zat_lt hx0
          omega
    · have := h1.1 _ y hy
      rw [had_hi k (by omega)]
      rw [← hcomp] at this
      rw [← hcomp]
      exact zat_rwU (by rw [renE_rw]; exact hr) (hBA _ (zat_in this hr)) (zat_ren.mpr this)
  · have key : ∀ (k : Nat) (x : zE), k < mem.length → (zMg f is out mem)[k]? = some x → zrw x = true → ∃ x0, mem[k]? = some x0 ∧ zrw x0 = true := by
      intro k x _ hx hr
      rcases zMg_at hnd hx with ⟨j, e, g1, g2, g3, rfl⟩ | ⟨g1, g2⟩
      · obtain ⟨x0, hx0⟩ := hsubat j k g1
        have hr0 : zrw x0 = true := by rw [hkind j x0 e hx0 g2]; exact g3
        exact ⟨_, (hmem j k x0 g1 hx0 hr0).1, by rw [renE_rw]; exact hr0⟩
      · exact ⟨x, g1, hr⟩
    rcases hcell i x hi with ⟨hil, hx1⟩ | ⟨hil, x', hx', rfl, hrx⟩ <;> rcases hcell j y hj with ⟨hjl, hy1⟩ | ⟨hjl, y', hy', rfl, hry⟩
    · obtain ⟨x0, a1, a2⟩ := key i x hil hx1 hxr
      obtain ⟨y0, b1, b2⟩ := key j y hjl hy1 hyr
      rw [← had_lo i hil, ← had_lo j hjl] at hxy
      exact hWd.2 i j x0 y0 a1 b1 a2 b2 hxy
    · exfalso
      obtain ⟨x0, a1, a2⟩ := key i x hil hx1 hxr
      have h5 := zat_lt (hWd.1 i x0 a1)
      have h6 := hnew _ y' (by omega) hy' hry
      rw [← had_lo i hil, had_hi j (by omega)] at hxy
      omega
    · exfalso
      obtain ⟨y0, b1, b2⟩ := key j y hjl hy1 hyr
      have h5 := zat_lt (hWd.1 j y0 b1)
      have h6 := hnew _ x' (by omega) hx' hrx
      rw [← had_lo j hjl, had_hi i (by omega)] at hxy
      omega
    · rw [had_hi i (by omega), had_hi j (by omega)] at hxy
      have := h1.2 _ _ x' y' hx' hy' hrx hry hxy
      omega
section ZNI
variable {X : zX} {kc ks : Nat} {mem : List zE} {pc n : Nat} {lv : List (Nat × Value)} {st : List Value}
abbrev zRmA (rm R : Room) (M : zM) (mc ms : Nat) : Prop := rm.cells = mc ∧ rm.slots = ms ∧ rm.frames + 1 ≤ R.frames ∧ 8 + (M.2.2.1 + 11) + rm.locals ≤ R.locals
/-- a constructor: by the link (normal or a nest mate's), of no arguments -/
theorem Z_callI (k : Nat) {idx b mc ms : Nat} {M' : zM} {rm : Room} {sub : List zE} {Q' : Option Value → List zE → Prop} (is : List Nat) (h : X.I[k]? = some (pc, .invokespecial idx, 3, n)) (hal : X.al = true) (hlk : Cond.methodLink X.M.1.cls idx M'.1 ∈ zTB ∨ ∃ host, Cond.methodLinkNest X.M.1.cls idx M'.1 host ∈ zNW) (hM : zCi M' 0) (hc : Con X.1 M' rm mc ms true [.ref 0] sub Q') (hE : zEmb is mem sub) (hb : zr is 0 = b) (hcs : (st.map fun v => v.category).sum ≤ 8) (hrm : zRmA rm X.R M' mc ms) (hR : kc + mc ≤ X.R.cells ∧ ks + ms ≤ X.R.slots)
    (hsm : mem.all (zsE mem.length) = true) (hsl : lv.all (fun q => zsv mem.length q.2) = true) (hss : st.all (zsv mem.length) = true)
    (kk : ∀ (r : Option Value) (out : List zE), Q' r out → r = none ∧ (out.drop sub.length).all zrw = true ∧ Z X (kc + mc) (ks + ms) (zMg (zfr is sub.length mem.length) is out mem ++ (out.drop sub.length).map (renE (zfr is sub.length mem.length))) n lv st) : Z X kc ks mem pc lv (.ref b :: st) := by
  intro D cI cL ad ad0 n0 A p e s m args below meth c H locs ls hd hB hWd hag hn hA hS hl
  obtain ⟨h1, rfl⟩ := zI_dec hd h
  have hts := hB.2.2.2.2.2.2.2.1
  have hNW := hB.2.2.2.2.2.2.2.2.1
  have hK := hB.2.2.2.2.2.2.2.2.2
  have hcon := hc D cI cL (fun j => ad (zr is j)) H.size
  have hpre := zPc_of (l := X.1) (av := [.ref 0]) hK hNW hWd hE
  have e3 : ([Value.ref 0].map (zv (fun j => ad (zr is j)))) = [Value.ref (ad b)] := by
    show [Value.ref (ad (zr is 0))] = _
    rw [hb]
  rw [e3] at hcon hpre
  have hrun : va_Run p X.1 e X.R s m args below meth c H locs kc ks mc ms (F0 m pc ls (.ref (ad b) :: st.map (zv ad))) (st.map (zv ad)) (zQ true Q' D cI cL (zA sub (fun j => ad (zr is j)) H.size) (fun j => ad (zr is j)) sub.length #[.ref (ad b)]) (zA sub (fun j => ad (zr is j)) H.size) := by
    have hret := hM.2.2.2
    rcases hlk with hlk | ⟨host, hlk⟩
    · have hcw := callB_of (R := X.R) (own := X.M.1.cls) (index := idx) (y := M'.1) (bytes := M'.2.1) (maxL := M'.2.2.1) (ret := M'.2.2.2.1) (ws := zws M') (ws' := zTB) (rm := rm) (mc := mc) (ms := ms) 0 hts (zGood (zws_in hM.1)) rfl hrm.1 hrm.2.1 (hts _ hM.1.1) (hts _ hlk) hM.1.2.2 hrm.2.2
      rw [hret] at hcw
      exact va_runI (As := []) (b := ad b) (rest := st.map (zv ad)) ⟨hB.1, hB.2.1, hB.2.2.1, hB.2.2.2.2.2.1, hts⟩ hcon ⟨hcw, hM.2.2.1, hts _ hM.2.1⟩ ⟨zPc_blind, hpre⟩ rfl rfl (zlv_size hl) rfl (lv_room (by rw [zcat_sum]; exact hcs)) h1 ⟨hR.1, hR.2⟩
    · have hcw := va_cnB (R := X.R) (ret := M'.2.2.2.1) (mc := mc) (ms := ms) (rm := rm) (ws' := zTB) (ws := zws M') 0 hts (zGood (zws_in hM.1)) rfl hrm.1 hrm.2.1 (hNW _ hlk) (hts _ hM.1.1) hM.1.2.2 hrm.2.2
      rw [hret] at hcw
      exact va_runIN (As := []) (b := ad b) (rest := st.map (zv ad)) ⟨hB.1, hB.2.1, hB.2.2.1, hB.2.2.2.2.2.1, hts⟩ hcon ⟨hcw, hM.2.2.1, hts _ hM.2.1⟩ ⟨zPc_blind, hpre⟩ rfl rfl (zlv_size hl) rfl (lv_room (by rw [zcat_sum]; exact hcs)) h1 ⟨hR.1, hR.2⟩
  refine zcallW hrun hS (zA_sub hWd hE hA hS.1) (fun r out ad1 t H1 locs1 hq hag1 hn1 hW1 hz1 hk1 hS1 => ?_)
  obtain ⟨rfl, hrw, hZ⟩ := kk r out hq
  have hgo : ∀ i, i < mem.length → ad i = (fun k => if k < mem.length then ad k else ad1 (sub.length + (k - mem.length))) i := fun i hi => by
    show ad i = if i < mem.length then ad i else _
    rw [if_pos hi]
  have hl2 : lv.map (zq ad) = lv.map (zq (fun k => if k < mem.length then ad k else ad1 (sub.length + (k - mem.length)))) := List.map_congr_left (fun q hq => by
    show (q.1, _) = (q.1, _)
    rw [zv_agree hgo (List.all_eq_true.mp hsl q hq)])
  have hag2 : zAg X.al n0 (fun k => if k < mem.length then ad k else ad1 (sub.length + (k - mem.length))) ad0 := by
    rw [hal] at hag ⊢
    show ∀ i, i < n0 → (if i < mem.length then ad i else _) = ad0 i
    intro i hi
    rw [if_pos (by omega)]
    exact hag.at i hi
  have := hZ D cI cL _ ad0 n0 A p e s m args below meth c H1 locs1 ls hd hB (zW.backA hK hWd hE hn1 (fun j hj => hag1.at j hj) hsm hrw (zA_sub hWd hE hA hS.1) hW1 hz1 hk1) hag2 (by rw [List.length_append, zMg_len]; omega) hA hS1 (by rw [← hl2]; exact hl)
  rw [← zmap_agree hgo hss] at this
  exact this
end ZNI
