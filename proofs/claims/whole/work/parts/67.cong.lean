/-! trains that agree: all answers are alike -/
section CG
variable {t u : TT}
theorem AgS (h : Ag t u) : Ag u t := ⟨h.1.symm, fun i i1 i2 => by
  have z := h.2 i i1 (by have := h.1; omega)
  exact ⟨z.1.symm, z.2.1.symm, z.2.2.symm⟩⟩
theorem Ag_bg (h : Ag t u) {k : Int} (hk : k ≤ t.2.2.2) : bg t k = bg u k := sI_c (fun i i1 i2 => (h.2 i i1 (by omega)).2.1)
theorem Ag_ah (h : Ag t u) {k : Int} (hk : k ≤ t.2.2.2) : ah t k = ah u k := sI_c (fun i i1 i2 => (h.2 i i1 (by omega)).2.2)
theorem Ag_tt (h : Ag t u) : tot t = tot u := by
  have e : bg t t.2.2.2 = bg u t.2.2.2 := Ag_bg h (Int.le_refl _)
  show sI t.2.1 t.2.2.2 = sI u.2.1 u.2.2.2
  rw [← h.1]
  exact e
theorem Ag_clo (h : Ag t u) : clo t ↔ clo u := by
  have e : ah t t.2.2.2 = ah u u.2.2.2 := by
    rw [Ag_ah h (Int.le_refl _), h.1]
  unfold clo
  rw [Ag_tt h, e]
theorem Ag_pl (h : Ag t u) {k : Int} (k1 : 0 ≤ k) (k2 : k < t.2.2.2) (w : Int) : pl t k w = pl u k w := by
  have z := h.2 k k1 k2
  unfold pl
  rw [z.1, z.2.1, z.2.2, Ag_ah h (by omega)]
theorem At_c1 (h : Ag t u) {a sd k w : Int} (hA : At t a sd k w) : At u a sd k w := by
  rcases hA with ⟨g1, g2, g3, g4⟩ | ⟨g1, g2, g3⟩
  · refine Or.inl ⟨g1, by rw [← h.1]; exact g2, by rw [← Ag_bg h (by omega)]; exact g3, ?_⟩
    rw [← (h.2 k g1 g2).2.1]
    exact g4
  · have e := (h.2 (t.2.2.2 - 1) (by omega) (by omega)).2.1
    refine Or.inr ⟨(Ag_clo h).mp g1, by rw [← h.1]; exact g2, ?_⟩
    rw [← h.1, ← e, ← Ag_tt h]
    exact g3
theorem Vis_c1 (h : Ag t u) {a k w : Int} (hA : Vis t a k w) : Vis u a k w := by
  rcases hA with ⟨g1, g2, g3, g4, g5⟩ | ⟨g1, g2, g3⟩
  · refine Or.inl ⟨g1, by rw [← h.1]; exact g2, g3, ?_, by rw [← Ag_bg h (by omega)]; exact g5⟩
    rw [← (h.2 k g1 g2).2.1]
    exact g4
  · have e := (h.2 (t.2.2.2 - 1) (by omega) (by omega)).2.1
    refine Or.inr ⟨(Ag_clo h).mp g1, by rw [← h.1]; exact g2, ?_⟩
    rw [← h.1, ← e, ← Ag_tt h]
    exact g3
theorem At_pl (h : Ag t u) (ht : TV t) {a sd k w : Int} (hA : At t a sd k w) : pl t k w = pl u k w := Ag_pl h (At_in ht hA).1.1 (At_in ht hA).1.2.1 w
theorem Vis_pl (h : Ag t u) (ht : TV t) {a k w : Int} (hA : Vis t a k w) : pl t k w = pl u k w := Ag_pl h (Vis_in ht hA).1.1 (Vis_in ht hA).1.2 w
theorem VisA (h : Ag t u) (hu : TV u) {Q : Int → SS → Prop} (z : ∀ a k w, Vis t a k w → Q a (pl t k w)) : ∀ a k w, Vis u a k w → Q a (pl u k w) := fun a k w hA => by
  rw [Vis_pl (AgS h) hu hA]
  exact z a k w (Vis_c1 (AgS h) hA)
theorem VisE (h : Ag t u) (ht : TV t) {Q : SS → Prop} {a : Int} (z : ∃ k w, Vis t a k w ∧ Q (pl t k w)) : ∃ k w, Vis u a k w ∧ Q (pl u k w) := by
  obtain ⟨k, w, z1, z2⟩ := z
  exact ⟨k, w, Vis_c1 h z1, by rw [← Vis_pl h ht z1]; exact z2⟩
theorem IsAt_c1 (h : Ag t u) (ht : TV t) {a sd v : Int} {f : SS → Int} (z : IsAt t a sd f v) : IsAt u a sd f v := by
  rcases z with ⟨k, w, z1, z2⟩ | ⟨z1, z2⟩
  · exact Or.inl ⟨k, w, At_c1 h z1, by rw [← At_pl h ht z1]; exact z2⟩
  · exact Or.inr ⟨fun ⟨k, w, z3⟩ => z1 ⟨k, w, At_c1 (AgS h) z3⟩, z2⟩
theorem theI_c {P Q : Int → Prop} (h : ∀ x, P x ↔ Q x) : theI P = theI Q := congrArg theI (funext fun x => propext (h x))
theorem cif_cg {α : Type} {p q : Prop} {a b a' b' : α} (h : p ↔ q) (h1 : p → a = a') (h2 : b = b') : cif p a b = cif q a' b' := by
  by_cases z : p
  · rw [cif_t z, cif_t (h.mp z), h1 z]
  · rw [cif_f z, cif_f (fun y => z (h.mpr y)), h2]
theorem atV_c (h : Ag t u) (ht : TV t) (hu : TV u) (a sd : Int) (f : SS → Int) : atV t a sd f = atV u a sd f := theI_c (fun x => ⟨IsAt_c1 h ht, IsAt_c1 (AgS h) hu⟩)
theorem sV_c (h : Ag t u) (ht : TV t) (hu : TV u) (S : Int → Int) : sV t S = sV u S := funext fun a => atV_c h ht hu _ _ _
theorem atF_c (h : Ag t u) (ht : TV t) (hu : TV u) (a sd what part : Int) : atF t a sd what part = atF u a sd what part := by
  unfold atF
  rw [atV_c h ht hu]
theorem curveF_c (h : Ag t u) (ht : TV t) (hu : TV u) (S : Int → Int) (a sd part : Int) : curveF t S a sd part = curveF u S a sd part := by
  unfold curveF
  rw [atV_c h ht hu]
theorem pressF_c (h : Ag t u) (ht : TV t) (hu : TV u) (S : Int → Int) (a sd part : Int) : pressF t S a sd part = pressF u S a sd part := by
  unfold pressF
  rw [atV_c h ht hu]
theorem forceF_c (h : Ag t u) (ht : TV t) (hu : TV u) (S : Int → Int) (a sd part : Int) : forceF t S a sd part = forceF u S a sd part := by
  unfold forceF
  rw [atV_c h ht hu]
theorem sampleF_c (h : Ag t u) (ht : TV t) (hu : TV u) (S : Int → Int) (a : Int) : sampleF t S a = sampleF u S a := by
  unfold sampleF
  rw [atV_c h ht hu, h.1, Ag_tt h]
theorem errF_c (h : Ag t u) (ht : TV t) (hu : TV u) (S : Int → Int) (st part : Int) : errF t S st part = errF u S st part := by
  unfold errF
  rw [sV_c h ht hu, h.1, Ag_tt h]
theorem widF_c (h : Ag t u) (ht : TV t) (hu : TV u) (S : Int → Int) (e : Int) : widF t S e = widF u S e := by
  unfold widF widP
  rw [sV_c h ht hu, h.1, Ag_tt h]
theorem pieceF_c (h : Ag t u) (h0 : 0 ≤ t.2.2.2) (k n r : Int) : (pieceF t k n r).1 = (pieceF u k n r).1 ∧ Ag (pieceF t k n r).2 (pieceF u k n r).2 := by
  unfold pieceF
  rw [← h.1, ← Ag_tt h]
  by_cases c1 : 0 ≤ k ∧ k ≤ 5
  · rw [cif_t c1, cif_t c1]
    by_cases c2 : mb k n r
    · rw [cif_t c2, cif_t c2]
      by_cases c3 : 12 ≤ t.2.2.2
      · rw [cif_t c3, cif_t c3]; exact ⟨rfl, h⟩
      · rw [cif_f c3, cif_f c3]
        by_cases c4 : 360 < tot t + n
        · rw [cif_t c4, cif_t c4]; exact ⟨rfl, h⟩
        · rw [cif_f c4, cif_f c4]; exact ⟨rfl, Ag_tAp h h0 k n r⟩
    · rw [cif_f c2, cif_f c2]; exact ⟨rfl, h⟩
  · rw [cif_f c1, cif_f c1]; exact ⟨rfl, h⟩
theorem pieceF_TV (h : TV t) (k n r : Int) : TV (pieceF t k n r).2 := by
  unfold pieceF
  by_cases c1 : 0 ≤ k ∧ k ≤ 5
  · rw [cif_t c1]
    by_cases c2 : mb k n r
    · rw [cif_t c2]
      by_cases c3 : 12 ≤ t.2.2.2
      · rw [cif_t c3]; exact h
      · rw [cif_f c3]
        by_cases c4 : 360 < tot t + n
        · rw [cif_t c4]; exact h
        · rw [cif_f c4]; exact TV_ap h c2 (by omega) (by omega)
    · rw [cif_f c2]; exact h
  · rw [cif_f c1]; exact h
theorem dropF_c (h : Ag t u) : (dropF t).1 = (dropF u).1 ∧ Ag (dropF t).2 (dropF u).2 := by
  unfold dropF
  rw [← h.1]
  by_cases c1 : t.2.2.2 = 0
  · rw [cif_t c1, cif_t c1]; exact ⟨rfl, h⟩
  · rw [cif_f c1, cif_f c1]
    refine ⟨rfl, rfl, fun i i1 i2 => ?_⟩
    have i2' : i < t.2.2.2 - 1 := i2
    exact h.2 i i1 (by omega)
theorem dropF_TV (h : TV t) : TV (dropF t).2 := by
  unfold dropF
  by_cases c1 : t.2.2.2 = 0
  · rw [cif_t c1]; exact h
  · rw [cif_f c1]
    have h1 := h.1.1
    refine ⟨⟨by show 0 ≤ t.2.2.2 - 1 ∧ t.2.2.2 - 1 ≤ 12; omega, h.1.2⟩, ?_, fun k k1 k2 => ?_⟩
    · have e := sI_s t.2.1 (k := t.2.2.2 - 1) (by omega)
      rw [show t.2.2.2 - 1 + 1 = t.2.2.2 by omega] at e
      have h2 := h.2.1
      unfold tot at h2 ⊢
      have h3 := (h.2.2 (t.2.2.2 - 1) (by omega) (by omega)).2.1
      show sI t.2.1 (t.2.2.2 - 1) ≤ 360
      omega
    · have k2' : k < t.2.2.2 - 1 := k2
      exact h.2.2 k k1 (by omega)
theorem sI_u (F : Int → Int) {j n v : Int} (h0 : 0 ≤ j) (hj : j < n) : sI (uI F j v) n = sI F n - F j + v := by
  have key : ∀ m : Nat, sI (uI F j v) (m : Int) = if j < (m : Int) then sI F (m : Int) - F j + v else sI F (m : Int) := by
    intro m
    induction m with
    | zero =>
      rw [if_neg (by omega)]
      exact (sI_0 _).trans (sI_0 _).symm
    | succ m ih =>
      rw [show ((m + 1 : Nat) : Int) = (m : Int) + 1 by omega, sI_s _ (by omega), sI_s _ (by omega), ih]
      by_cases z : j < (m : Int)
      · rw [if_pos z, if_pos (by omega), uI_n _ _ (by omega)]
        omega
      · rw [if_neg z]
        by_cases y : (m : Int) = j
        · rw [if_pos (by omega), y, uI_s]
          omega
        · rw [if_neg (by omega), uI_n _ _ y]
  have := key n.toNat
  rw [show ((n.toNat : Nat) : Int) = n by omega, if_pos hj] at this
  exact this
theorem tW_TV (h : TV t) {j a b c : Int} (h0 : 0 ≤ j) (hj : j < t.2.2.2) (hm : mb a b c) (ht : tot t - t.2.1 j + b ≤ 360) : TV (tW t j a b c) := by
  have hm' := hm
  unfold mb at hm'
  refine ⟨⟨h.1.1, fun i => ?_, fun i => ?_, fun i => ?_⟩, ?_, fun k k1 k2 => ?_⟩
  · show 0 ≤ uI t.1 j a i ∧ uI t.1 j a i ≤ 5
    by_cases e : i = j
    · rw [e, uI_s]; omega
    · rw [uI_n _ _ e]; exact h.1.2.1 i
  · show 0 ≤ uI t.2.1 j b i ∧ uI t.2.1 j b i ≤ 360
    by_cases e : i = j
    · rw [e, uI_s]; omega
    · rw [uI_n _ _ e]; exact h.1.2.2.1 i
  · show -99 ≤ uI t.2.2.1 j c i ∧ uI t.2.2.1 j c i ≤ 99
    by_cases e : i = j
    · rw [e, uI_s]; omega
    · rw [uI_n _ _ e]; exact h.1.2.2.2 i
  · show sI (uI t.2.1 j b) t.2.2.2 ≤ 360
    rw [sI_u _ h0 hj]
    unfold tot at ht
    omega
  · have k2' : k < t.2.2.2 := k2
    show mb (uI t.1 j a k) (uI t.2.1 j b k) (uI t.2.2.1 j c k)
    by_cases e : k = j
    · rw [e, uI_s, uI_s, uI_s]; exact hm
    · rw [uI_n _ _ e, uI_n _ _ e, uI_n _ _ e]; exact h.2.2 k k1 k2'
theorem Ag_tW (h : Ag t u) (j a b c : Int) : Ag (tW t j a b c) (tW u j a b c) := by
  refine ⟨h.1, fun i i1 i2 => ?_⟩
  have i2' : i < t.2.2.2 := i2
  show uI t.1 j a i = uI u.1 j a i ∧ uI t.2.1 j b i = uI u.2.1 j b i ∧ uI t.2.2.1 j c i = uI u.2.2.1 j c i
  by_cases e : i = j
  · rw [e, uI_s, uI_s, uI_s, uI_s, uI_s, uI_s]
    exact ⟨rfl, rfl, rfl⟩
  · rw [uI_n _ _ e, uI_n _ _ e, uI_n _ _ e, uI_n _ _ e, uI_n _ _ e, uI_n _ _ e]
    exact h.2 i i1 i2'
theorem putG_c (h : Ag t u) {j : Int} (h0 : 0 ≤ j) (hj : j < t.2.2.2) (what a b c : Int) : (putG t j what a b c).1 = (putG u j what a b c).1 ∧ Ag (putG t j what a b c).2 (putG u j what a b c).2 := by
  have z := h.2 j h0 hj
  unfold putG
  rw [← Ag_tt h, ← z.2.1]
  by_cases c1 : mb a b c
  · rw [cif_t c1, cif_t c1]
    by_cases c2 : 360 < tot t - t.2.1 j + b
    · rw [cif_t c2, cif_t c2]; exact ⟨rfl, h⟩
    · rw [cif_f c2, cif_f c2]
      refine ⟨?_, Ag_tW h j a b c⟩
      show ptOf t j what = ptOf u j what
      unfold ptOf
      rw [z.1, z.2.1, z.2.2]
  · rw [cif_f c1, cif_f c1]; exact ⟨rfl, h⟩
theorem putG_TV (h : TV t) {j : Int} (h0 : 0 ≤ j) (hj : j < t.2.2.2) (what a b c : Int) : TV (putG t j what a b c).2 := by
  unfold putG
  by_cases c1 : mb a b c
  · rw [cif_t c1]
    by_cases c2 : 360 < tot t - t.2.1 j + b
    · rw [cif_t c2]; exact h
    · rw [cif_f c2]; exact tW_TV h h0 hj c1 (by omega)
  · rw [cif_f c1]; exact h
theorem putF_c (h : Ag t u) (j what v : Int) : (putF t j what v).1 = (putF u j what v).1 ∧ Ag (putF t j what v).2 (putF u j what v).2 := by
  unfold putF
  rw [← h.1]
  by_cases c1 : 0 ≤ j ∧ j < t.2.2.2
  · have z := h.2 j c1.1 c1.2
    rw [cif_t c1, cif_t c1, ← z.1, ← z.2.1, ← z.2.2]
    by_cases c2 : 0 ≤ what ∧ what ≤ 2
    · rw [cif_t c2, cif_t c2]; exact putG_c h c1.1 c1.2 _ _ _ _
    · rw [cif_f c2, cif_f c2]; exact ⟨rfl, h⟩
  · rw [cif_f c1, cif_f c1]; exact ⟨rfl, h⟩
theorem putF_TV (h : TV t) (j what v : Int) : TV (putF t j what v).2 := by
  unfold putF
  by_cases c1 : 0 ≤ j ∧ j < t.2.2.2
  · rw [cif_t c1]
    by_cases c2 : 0 ≤ what ∧ what ≤ 2
    · rw [cif_t c2]; exact putG_TV h c1.1 c1.2 _ _ _ _
    · rw [cif_f c2]; exact h
  · rw [cif_f c1]; exact h
theorem ofF_c (h : Ag t u) (j what : Int) : ofF t j what = ofF u j what := by
  unfold ofF
  rw [← h.1]
  refine cif_cg Iff.rfl (fun c1 => ?_) rfl
  have z := h.2 j c1.1 c1.2
  have e : ptOf t j what = ptOf u j what := by
    unfold ptOf
    rw [z.1, z.2.1, z.2.2]
  rw [e, Ag_bg h (by omega), Ag_ah h (by omega)]
theorem toldF_c (h : Ag t u) (S : Int → Int) (n what : Int) : toldF t S n what = toldF u S n what := by
  unfold toldF
  rw [h.1, Ag_tt h, bI_c (Ag_clo h)]
theorem Ag_mir (h : Ag t u) : Ag (mirT t) (mirT u) := by
  refine ⟨h.1, fun i i1 i2 => ?_⟩
  have i2' : i < t.2.2.2 := i2
  have z := h.2 (t.2.2.2 - 1 - i) (by omega) (by omega)
  show tnF t.2.2.2 tk t.1 t.2.2.2 (-1) i = tnF u.2.2.2 tk u.1 u.2.2.2 (-1) i ∧ tnF t.2.2.2 (fun x => x) t.2.1 t.2.2.2 (-1) i = tnF u.2.2.2 (fun x => x) u.2.1 u.2.2.2 (-1) i ∧ tnF t.2.2.2 (fun x => -x) t.2.2.1 t.2.2.2 (-1) i = tnF u.2.2.2 (fun x => -x) u.2.2.1 u.2.2.2 (-1) i
  rw [← h.1]
  unfold tnF
  rw [if_pos (Or.inl ⟨i1, i2'⟩), if_pos (Or.inl ⟨i1, i2'⟩), if_pos (Or.inl ⟨i1, i2'⟩), if_pos (Or.inl ⟨i1, i2'⟩), if_pos (Or.inl ⟨i1, i2'⟩), if_pos (Or.inl ⟨i1, i2'⟩), z.1, z.2.1, z.2.2]
  exact ⟨rfl, rfl, rfl⟩
theorem alk_c1 (h : Ag t u) {i j : Int} (hi : 0 ≤ i ∧ i < t.2.2.2) (hj : 0 ≤ j ∧ j < t.2.2.2) : alk t i j ↔ alk u i j := by
  have z1 := h.2 i hi.1 hi.2
  have z2 := h.2 j hj.1 hj.2
  unfold alk
  rw [z1.1, z1.2.1, z1.2.2, z2.1, z2.2.1, z2.2.2]
theorem alikeF_c (h : Ag t u) (j : Int) : alikeF t j = alikeF u j := by
  unfold alikeF
  rw [← h.1]
  exact cif_cg Iff.rfl (fun c1 => cnI_c (fun i i1 i2 => alk_c1 h ⟨i1, i2⟩ c1)) rfl
theorem fst1_c (h : Ag t u) {j : Int} (hj : 0 ≤ j ∧ j < t.2.2.2) : fst1 t j ↔ fst1 u j := by
  unfold fst1
  constructor
  · intro z i i1 i2 y
    exact z i i1 i2 ((alk_c1 h ⟨i1, by omega⟩ hj).mpr y)
  · intro z i i1 i2 y
    exact z i i1 i2 ((alk_c1 h ⟨i1, by omega⟩ hj).mp y)
theorem IsUn_c (h : Ag t u) {k v : Int} (z : IsUn t k v) : IsUn u k v := by
  have hc : ∀ n, n ≤ t.2.2.2 → cnI (fst1 t) n = cnI (fst1 u) n := fun n hn => cnI_c (fun i i1 i2 => fst1_c h ⟨i1, by omega⟩)
  rcases z with ⟨g1, g2, g3, g4⟩ | ⟨g1, g2⟩
  · exact Or.inl ⟨g1, by rw [← h.1]; exact g2, (fst1_c h ⟨g1, g2⟩).mp g3, by rw [← hc v (by omega)]; exact g4⟩
  · refine Or.inr ⟨fun j j1 j2 j3 => ?_, ?_⟩
    · rw [← h.1] at j2
      rw [← hc j (by omega)]
      exact g1 j j1 j2 ((fst1_c h ⟨j1, j2⟩).mpr j3)
    · rw [← h.1, ← hc _ (Int.le_refl _)]
      exact g2
theorem unlikeF_c (h : Ag t u) (k : Int) : unlikeF t k = unlikeF u k := theI_c (fun v => ⟨IsUn_c h, IsUn_c (AgS h)⟩)
theorem spn_c (h : Ag t u) : ∀ m : Nat, (m : Int) ≤ t.2.2.2 → spn t m = spn u m := by
  intro m
  induction m with
  | zero => intro _; rfl
  | succ m ih =>
    intro hm
    have e := ih (by omega)
    show cif (spn t m < 0 ∨ stp t m (spn t m)) (m : Int) (spn t m) = cif (spn u m < 0 ∨ stp u m (spn u m)) (m : Int) (spn u m)
    rw [← e]
    refine cif_cg ?_ (fun _ => rfl) rfl
    rcases spn_bd t m with z | z
    · exact ⟨fun _ => Or.inl (by omega), fun _ => Or.inl (by omega)⟩
    · have z1 := h.2 (m : Int) (by omega) (by omega)
      have z2 := h.2 (spn t m) (by omega) (by omega)
      unfold stp
      rw [z1.2.1, z1.2.2, z2.2.1, z2.2.2]
theorem spI_c (h : Ag t u) (h0 : 0 ≤ t.2.2.2) : spI t t.2.2.2 = spI u u.2.2.2 := by
  unfold spI
  rw [← h.1]
  exact spn_c h _ (by omega)
theorem hj_c (h : Ag t u) (j : Int) : hj t j ↔ hj u j := by
  unfold hj
  rw [Ag_clo h, h.1]
theorem pa_c (h : Ag t u) (j : Int) : pa t j = pa u j := by
  unfold pa
  rw [h.1]
theorem jpa_c (h : Ag t u) (ht : TV t) {j : Int} (hh : hj t j) (what : Int) : jpa t j what = jpa u j what ∧ jpb t j what = jpb u j what := by
  have hi := hj_in ht hh
  have e1 := Ag_pl h hi.1.1 hi.1.2 0
  have e2 := (h.2 _ hi.2.1 hi.2.2).2.1
  have e3 := Ag_pl h hi.2.1 hi.2.2 (t.2.1 (pa t j))
  unfold jpa jpb
  rw [e1, e3, e2, pa_c h]
  exact ⟨rfl, rfl⟩
theorem jkd_c (h : Ag t u) (ht : TV t) {j : Int} (hh : hj t j) : jkd t j = jkd u j := by
  unfold jkd
  rw [(jpa_c h ht hh 1).1, (jpa_c h ht hh 2).1]
theorem jumpF_c (h : Ag t u) (ht : TV t) (j what part : Int) : jumpF t j what part = jumpF u j what part := by
  unfold jumpF
  refine cif_cg (hj_c h j) (fun c1 => ?_) rfl
  rw [(jpa_c h ht c1 _).1, (jpa_c h ht c1 _).2]
theorem joinF_c (h : Ag t u) (ht : TV t) (j : Int) : joinF t j = joinF u j := by
  unfold joinF
  exact cif_cg (hj_c h j) (fun c1 => jkd_c h ht c1) rfl
theorem jbn_c (h : Ag t u) (ht : TV t) (what : Int) : ∀ m : Nat, jbn t what m = jbn u what m := by
  intro m
  induction m with
  | zero => rfl
  | succ m ih =>
    show cif (hj t m ∧ jkd t m = what) (jbn t what m ||| (iI 1 <<< (iI (m : Int) &&& 31))) (jbn t what m) = cif (hj u m ∧ jkd u m = what) (jbn u what m ||| (iI 1 <<< (iI (m : Int) &&& 31))) (jbn u what m)
    rw [← ih]
    refine cif_cg ⟨fun z => ⟨(hj_c h _).mp z.1, by rw [← jkd_c h ht z.1]; exact z.2⟩, fun z => ⟨(hj_c h _).mpr z.1, by rw [jkd_c h ht ((hj_c h _).mpr z.1)]; exact z.2⟩⟩ (fun _ => rfl) rfl
theorem joinsF_c (h : Ag t u) (ht : TV t) (what : Int) : joinsF t what = joinsF u what := by
  unfold joinsF jbI
  rw [h.1, jbn_c h ht]
theorem IsEx_c (h : Ag t u) {sg v : Int} (z : IsEx t sg v) : IsEx u sg v := by
  obtain ⟨j, z1, z2, z3, z4⟩ := z
  refine ⟨j, z1, by rw [← h.1]; exact z2, by rw [← Ag_bg h z2]; exact z3, fun i i1 i2 => ?_⟩
  rw [← h.1] at i2
  rw [← Ag_bg h z2, ← Ag_bg h i2, ← Ag_ah h z2, ← Ag_ah h i2]
  exact z4 i i1 i2
theorem extF_c (h : Ag t u) (what : Int) : extF t what = extF u what := by
  have e : ∀ sg, theI (IsEx t sg) = theI (IsEx u sg) := fun sg => theI_c (fun v => ⟨IsEx_c h, IsEx_c (AgS h)⟩)
  unfold extF
  rw [h.1, e]
theorem radP_c (h : Ag t u) (hu : TV u) {x : Int} (z : radP t x) : radP u x := ⟨z.1, z.2.1, VisA (Q := fun _ s => 0 < (lf s + 3249 * s.2.2.2.1) + s.1 * x) h hu z.2.2⟩
theorem preP_c (h : Ag t u) (hu : TV u) {S : Int → Int} {x : Int} (z : preP t S x) : preP u S x := ⟨z.1, z.2.1, VisA (Q := fun _ s => 0 < (spr S s + ine S s) + s.1 * x) h hu z.2.2⟩
theorem stiP_c (h : Ag t u) (hu : TV u) {S : Int → Int} {x : Int} (z : stiP t S x) : stiP u S x := ⟨z.1, z.2.1, VisA (Q := fun _ s => 0 < (prl S s + ine S s) + lf s * x) h hu z.2.2⟩
theorem fasP_c (h : Ag t u) (hu : TV u) {S : Int → Int} {x : Int} (z : fasP t S x) : fasP u S x := ⟨z.1, z.2.1, VisA (Q := fun _ s => 0 < (prl S s + spr S s) + S 1 * 3249 * s.2.2.2.1 * (x * x)) h hu z.2.2⟩
theorem genP_c (h : Ag t u) (hu : TV u) {n x : Int} (z : genP t n x) : genP u n x := ⟨z.1, z.2.1, VisA (Q := fun _ s => 0 < lf s + s.1 * x ∧ 0 < (n * lf s - 5700 * ab s.2.2.1 + 1) + n * s.1 * x) h hu z.2.2⟩
theorem floP_c (h : Ag t u) (ht : TV t) {S : Int → Int} {x : Int} (z : floP t S x) : floP u S x := VisE (Q := fun s => frc S s ≤ 0) h ht z
theorem lrad_c (h : Ag t u) (ht : TV t) (hu : TV u) : lstA (radP t) = lstA (radP u) := lstA_c (fun x => ⟨radP_c h hu, radP_c (AgS h) ht⟩)
theorem lpre_c (h : Ag t u) (ht : TV t) (hu : TV u) (S : Int → Int) : lstA (preP t S) = lstA (preP u S) := lstA_c (fun x => ⟨preP_c h hu, preP_c (AgS h) ht⟩)
theorem lsti_c (h : Ag t u) (ht : TV t) (hu : TV u) (S : Int → Int) : lstA (stiP t S) = lstA (stiP u S) := lstA_c (fun x => ⟨stiP_c h hu, stiP_c (AgS h) ht⟩)
theorem lflo_c (h : Ag t u) (ht : TV t) (hu : TV u) (S : Int → Int) : lstA (floP t S) = lstA (floP u S) := lstA_c (fun x => ⟨floP_c h ht, floP_c (AgS h) hu⟩)
theorem gfas_c (h : Ag t u) (ht : TV t) (hu : TV u) (S : Int → Int) : gstA (fasP t S) = gstA (fasP u S) := gstA_c (fun x => ⟨fasP_c h hu, fasP_c (AgS h) ht⟩)
theorem gentleF_c (h : Ag t u) (ht : TV t) (hu : TV u) (n : Int) : gentleF t n = gentleF u n := by
  have e : lstA (genP t n) = lstA (genP u n) := lstA_c (fun x => ⟨genP_c h hu, genP_c (AgS h) ht⟩)
  unfold gentleF
  rw [e]
theorem countF_c (h : Ag t u) (ht : TV t) (hu : TV u) (S : Int → Int) (what : Int) : countF t S what = countF u S what := by
  unfold countF
  rw [Ag_tt h]
  refine cif_cg Iff.rfl (fun _ => cnI_c (fun a _ _ => ⟨VisE (Q := fun s => conV S what s ≤ 0) h ht, VisE (Q := fun s => conV S what s ≤ 0) (AgS h) hu⟩)) rfl
theorem stW_c (h : Ag t u) (ht : TV t) (hu : TV u) {S : Int → Int} {v A B : Int} (z : stW t S (Vis t) v A B) : stW u S (Vis u) v A B := by
  obtain ⟨k, w, z1, z2, z3, z4, z5⟩ := z
  have e := Vis_pl h ht z1
  exact ⟨k, w, Vis_c1 h z1, by rw [← e]; exact z2, by rw [← e]; exact z3, z4, VisA (Q := fun a' s => 0 < rch S s → ab s.2.2.1 * B < A * rch S s ∨ (ab s.2.2.1 * B = A * rch S s ∧ v ≤ a')) h hu z5⟩
theorem IsSt_c (h : Ag t u) (ht : TV t) (hu : TV u) {S : Int → Int} {v : Int} (z : IsSt t S v) : IsSt u S v := by
  rcases z with ⟨z1, z2⟩ | ⟨A, B, z⟩
  · exact Or.inl ⟨z1, VisA (Q := fun _ s => ¬ 0 < rch S s) h hu z2⟩
  · exact Or.inr ⟨A, B, stW_c h ht hu z⟩
theorem stA_c (h : Ag t u) (ht : TV t) (hu : TV u) (S : Int → Int) : stA t S = stA u S := theI_c (fun v => ⟨IsSt_c h ht hu, IsSt_c (AgS h) hu ht⟩)
theorem crn_c (h : Ag t u) (ht : TV t) {j : Int} (hj1 : 0 ≤ j ∧ j < t.2.2.2) : crn t j = crn u j := by
  unfold crn
  refine cif_cg (hj_c h j) (fun c1 => ?_) rfl
  have hi := hj_in ht c1
  have e1 := Ag_pl h hi.1.1 hi.1.2 0
  have e2 := (h.2 _ hi.2.1 hi.2.2).2.1
  have e3 := Ag_pl h hi.2.1 hi.2.2 (t.2.1 (pa t j))
  rw [e1, e3, e2, pa_c h, (jpa_c h ht c1 1).1]
theorem okS_c (h : Ag t u) (ht : TV t) (hu : TV u) {b : Int} (z : okS t b) : okS u b := by
  refine ⟨fun k k1 k2 k3 => ?_, fun ⟨k, k1, k2, k3⟩ => z.2 ⟨k, k1, ?_, ?_⟩⟩
  · rw [← h.1] at k2
    rw [← (h.2 k k1 k2).1]
    exact z.1 k k1 k2 k3
  · rw [h.1]; exact k2
  · rw [crn_c h ht ⟨k1, by rw [h.1]; exact k2⟩, pa_c h]
    exact k3
theorem smI_c {P Q : Int → Prop} (h : ∀ x, P x ↔ Q x) {b v few : Int} (z : smI P b v few) : smI Q b v few := by
  have e : P = Q := funext fun x => propext (h x)
  rw [← e]
  exact z
theorem smF_c (h : Ag t u) (ht : TV t) (hu : TV u) : smF t = smF u := by
  have e : okS t = okS u := funext fun b => propext ⟨okS_c h ht hu, okS_c (AgS h) hu ht⟩
  unfold smF IsSm
  rw [e, h.1]
theorem layOk_c (h : Ag t u) (a st n : Int) : layOk t a st n ↔ layOk u a st n := by
  unfold layOk
  rw [h.1, Ag_tt h]
theorem seen_c (h : Ag t u) {S P P' : Int → Int} {r i n j : Int} (hj : 0 ≤ j ∧ j < t.2.2.2) (hP : ∀ w, 0 ≤ w → w < n → P (r * 30 + (i + w)) = P' (r * 30 + (i + w))) : ∀ m : Nat, seen t S P r i n j m = seen u S P' r i n j m := by
  intro m
  have z := h.2 j hj.1 hj.2
  have e : ∀ k, seeP t S P r i n j k ↔ seeP u S P' r i n j k := fun k => by
    unfold seeP
    rw [z.2.1, z.2.2, Ag_ah h (by omega)]
    exact ⟨fun y w w1 w2 => by rw [← hP w w1 w2]; exact y w w1 w2, fun y w w1 w2 => by rw [hP w w1 w2]; exact y w w1 w2⟩
  induction m with
  | zero => rfl
  | succ m ih =>
    show cif (seeP t S P r i n j m) (seen t S P r i n j m ||| (iI 1 <<< (iI (m : Int) &&& 31))) (seen t S P r i n j m) = cif (seeP u S P' r i n j m) (seen u S P' r i n j m ||| (iI 1 <<< (iI (m : Int) &&& 31))) (seen u S P' r i n j m)
    rw [← ih]
    exact cif_cg (e _) (fun _ => rfl) rfl
end CG
/-! the relation between the class and the model -/
def REr (P P' Zs : Int → Int) : Prop := ∀ r j, 0 ≤ r → r < 4 → 0 ≤ j → j < Zs r → P (r * 30 + j) = P' (r * 30 + j)
def RbT (t : TT) : Prop := (∀ i, 0 ≤ t.1 i ∧ t.1 i ≤ 5) ∧ (∀ i, 0 ≤ t.2.1 i ∧ t.2.1 i ≤ 360) ∧ ∀ i, -99 ≤ t.2.2.1 i ∧ t.2.2.1 i ≤ 99
def Rel (p : PS) (m : MP) : Prop := PV p ∧ MV m ∧ Ag p.t m.t ∧ p.s = m.s ∧ p.ps = m.ps ∧ p.tb = m.tb ∧ p.ts = m.ts ∧ p.lc = m.lc ∧ p.rz = m.rz ∧ REr p.rp m.rp p.rz ∧ ((p.ip = 0 ∧ m.pt.2.2.2 = -1 ∧ RbT m.pt) ∨ (p.ip = 1 ∧ Ag p.pt m.pt))
