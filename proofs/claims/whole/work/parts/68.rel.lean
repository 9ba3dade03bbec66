/-! the relation is kept -/
section RL
variable {p : PS} {m : MP}
theorem rel_t (h : Rel p m) {t' u' : TT} (h1 : TV t') (h2 : TV u') (h3 : Ag t' u') : Rel (t', p.2) (u', m.2) := ⟨⟨h1, h.1.2⟩, ⟨h2, h.2.1.2⟩, h3, h.2.2.2⟩
theorem SB_tell {s : Int → Int} (h : SB s) (what v : Int) : SB (tellF s what v).2 := by
  unfold tellF
  by_cases c1 : 0 ≤ what ∧ what < 6
  · rw [cif_t c1]
    by_cases c2 : v < leF what ∨ moF what < v
    · rw [cif_t c2]; exact h
    · rw [cif_f c2]
      show SB (uI s what v)
      unfold SB at h ⊢
      rcases (show what = 0 ∨ what = 1 ∨ what = 2 ∨ what = 3 ∨ what = 4 ∨ what = 5 by omega) with e | e | e | e | e | e <;> subst e <;> simp [leF, moF] at c2 <;> simp [uI] <;> omega
  · rw [cif_f c1]; exact h
theorem rel_s (h : Rel p m) (what v : Int) : (tellF p.s what v).1 = (tellF m.s what v).1 ∧ Rel (p.1, (tellF p.s what v).2, p.2.2) (m.1, (tellF m.s what v).2, m.2.2) := by
  have e := h.2.2.2.1
  have b := SB_tell h.1.2.1 what v
  refine ⟨by rw [e], ⟨h.1.1, b, h.1.2.2⟩, ⟨h.2.1.1, by rw [← e]; exact b, h.2.1.2.2⟩, h.2.2.1, ?_, h.2.2.2.2⟩
  show (tellF p.s what v).2 = (tellF m.s what v).2
  rw [e]
theorem rel_P (h : Rel p m) {P P' : Int → Int} (h1 : ∀ x, inL (P x)) (h2 : ∀ x, inL (P' x)) (h3 : REr P P' p.rz) : Rel ((p.1, p.2.1, p.2.2.1, p.2.2.2.1, p.2.2.2.2.1, p.2.2.2.2.2.1, p.2.2.2.2.2.2.1, p.2.2.2.2.2.2.2.1, P, p.2.2.2.2.2.2.2.2.2)) ((m.1, m.2.1, m.2.2.1, m.2.2.2.1, m.2.2.2.2.1, P', m.2.2.2.2.2.2)) := ⟨PV_rp h.1 h1, MV_rp h.2.1 h2, h.2.2.1, h.2.2.2.1, h.2.2.2.2.1, h.2.2.2.2.2.1, h.2.2.2.2.2.2.1, h.2.2.2.2.2.2.2.1, h.2.2.2.2.2.2.2.2.1, h3, h.2.2.2.2.2.2.2.2.2.2⟩
theorem rel_lay (h : Rel p m) (r i a st n : Int) : (layF p.t p.s p.rp p.rz r i a st n).1 = (layF m.t m.s m.rp m.rz r i a st n).1 ∧ Rel ((p.1, p.2.1, p.2.2.1, p.2.2.2.1, p.2.2.2.2.1, p.2.2.2.2.2.1, p.2.2.2.2.2.2.1, p.2.2.2.2.2.2.2.1, (layF p.t p.s p.rp p.rz r i a st n).2, p.2.2.2.2.2.2.2.2.2)) ((m.1, m.2.1, m.2.2.1, m.2.2.2.1, m.2.2.2.2.1, (layF m.t m.s m.rp m.rz r i a st n).2, m.2.2.2.2.2.2)) := by
  have es := h.2.2.2.1
  have ez := h.2.2.2.2.2.2.2.2.1
  have hR := h.2.2.2.2.2.2.2.2.2.1
  have b1 := h.1.2.2.2.2.2.2.2.1
  have b2 := h.2.1.2.2.2.2.2.2.1
  have hz := h.1.2.2.2.2.2.2.2.2
  have ef : sampleF p.t p.s = sampleF m.t m.s := by
    rw [← es]
    exact funext fun a => sampleF_c h.2.2.1 h.1.1 h.2.1.1 _ a
  have hno : Rel ((p.1, p.2.1, p.2.2.1, p.2.2.2.1, p.2.2.2.2.1, p.2.2.2.2.2.1, p.2.2.2.2.2.2.1, p.2.2.2.2.2.2.2.1, p.rp, p.2.2.2.2.2.2.2.2.2)) ((m.1, m.2.1, m.2.2.1, m.2.2.2.1, m.2.2.2.2.1, m.rp, m.2.2.2.2.2.2)) := rel_P h b1 b2 hR
  unfold layF
  rw [← ez]
  by_cases c1 : 0 ≤ r ∧ r < 4
  · rw [cif_t c1, cif_t c1]
    by_cases c2 : 0 ≤ p.rz r
    · rw [cif_t c2, cif_t c2]
      by_cases c3 : layOk p.t a st n
      · rw [cif_t c3, cif_t ((layOk_c h.2.2.1 a st n).mp c3)]
        refine ⟨rfl, rel_P h (layP_b b1 (sampleF_b h.1.1 h.1.2.1)) (layP_b b2 (sampleF_b h.2.1.1 h.2.1.2.1)) (fun r' j r1 r2 j1 j2 => ?_)⟩
        have hzr := hz r
        have hzr' := hz r'
        rw [← ef]
        unfold layP
        exact cif_cg Iff.rfl (fun _ => rfl) (hR r' j r1 r2 j1 j2)
      · rw [cif_f c3, cif_f (fun y => c3 ((layOk_c h.2.2.1 a st n).mpr y))]
        exact ⟨rfl, hno⟩
    · rw [cif_f c2, cif_f c2]
      exact ⟨rfl, hno⟩
  · rw [cif_f c1, cif_f c1]
    exact ⟨rfl, hno⟩
theorem rel_see (h : Rel p m) (r i n j : Int) : seeF p.t p.s p.rp p.rz r i n j = seeF m.t m.s m.rp m.rz r i n j := by
  have es := h.2.2.2.1
  have ez := h.2.2.2.2.2.2.2.2.1
  have hR := h.2.2.2.2.2.2.2.2.2.1
  have hA := h.2.2.1
  unfold seeF
  rw [← ez, ← hA.1, ← es]
  refine cif_cg Iff.rfl (fun c1 => ?_) rfl
  have z := hA.2 j c1.2.1 c1.2.2
  rw [← z.2.1]
  refine cif_cg Iff.rfl (fun c2 => cif_cg Iff.rfl (fun c3 => cif_cg Iff.rfl (fun c4 => ?_) rfl) rfl) rfl
  unfold seeI
  rw [seen_c hA c1.2 (fun w w1 w2 => hR r (i + w) c1.1.1 c1.1.2 (by omega) (by omega))]
theorem rel_get (h : Rel p m) (r i : Int) : getF p.rp p.rz r i = getF m.rp m.rz r i := by
  have ez := h.2.2.2.2.2.2.2.2.1
  have hR := h.2.2.2.2.2.2.2.2.2.1
  unfold getF
  rw [← ez]
  exact cif_cg Iff.rfl (fun c1 => hR r i c1.1.1 c1.1.2 c1.2.1 c1.2.2) rfl
theorem uI_b {P : Int → Int} (h : ∀ x, inL (P x)) {k v : Int} (hv : inL v) (x : Int) : inL (uI P k v x) := by
  by_cases e : x = k
  · rw [e, uI_s]; exact hv
  · rw [uI_n _ _ e]; exact h x
theorem rel_set (h : Rel p m) (r i v : Int) (hv : inL v) : (setF p.rp p.rz r i v).1 = (setF m.rp m.rz r i v).1 ∧ Rel ((p.1, p.2.1, p.2.2.1, p.2.2.2.1, p.2.2.2.2.1, p.2.2.2.2.2.1, p.2.2.2.2.2.2.1, p.2.2.2.2.2.2.2.1, (setF p.rp p.rz r i v).2, p.2.2.2.2.2.2.2.2.2)) ((m.1, m.2.1, m.2.2.1, m.2.2.2.1, m.2.2.2.2.1, (setF m.rp m.rz r i v).2, m.2.2.2.2.2.2)) := by
  have ez := h.2.2.2.2.2.2.2.2.1
  have hR := h.2.2.2.2.2.2.2.2.2.1
  have b1 := h.1.2.2.2.2.2.2.2.1
  have b2 := h.2.1.2.2.2.2.2.2.1
  have hno : Rel ((p.1, p.2.1, p.2.2.1, p.2.2.2.1, p.2.2.2.2.1, p.2.2.2.2.2.1, p.2.2.2.2.2.2.1, p.2.2.2.2.2.2.2.1, p.rp, p.2.2.2.2.2.2.2.2.2)) ((m.1, m.2.1, m.2.2.1, m.2.2.2.1, m.2.2.2.2.1, m.rp, m.2.2.2.2.2.2)) := rel_P h b1 b2 hR
  unfold setF
  rw [← ez]
  by_cases c1 : 0 ≤ r ∧ r < 4
  · rw [cif_t c1, cif_t c1]
    by_cases c2 : 0 ≤ p.rz r
    · rw [cif_t c2, cif_t c2]
      by_cases c3 : 0 ≤ i ∧ i < p.rz r
      · rw [cif_t c3, cif_t c3]
        refine ⟨rfl, rel_P h (uI_b b1 hv) (uI_b b2 hv) (fun r' j r1 r2 j1 j2 => ?_)⟩
        show uI p.rp (r * 30 + i) v (r' * 30 + j) = uI m.rp (r * 30 + i) v (r' * 30 + j)
        by_cases e : r' * 30 + j = r * 30 + i
        · rw [e, uI_s, uI_s]
        · rw [uI_n _ _ e, uI_n _ _ e]
          exact hR r' j r1 r2 j1 j2
      · rw [cif_f c3, cif_f c3]; exact ⟨rfl, hno⟩
    · rw [cif_f c2, cif_f c2]; exact ⟨rfl, hno⟩
  · rw [cif_f c1, cif_f c1]; exact ⟨rfl, hno⟩
theorem zer_b {P : Int → Int} (h : ∀ x, inL (P x)) (r n : Int) (x : Int) : inL (zer P r n x) := by
  unfold zer
  split
  · omega
  · exact h x
theorem rel_PZ (h : Rel p m) {P P' Zs : Int → Int} (h1 : ∀ x, inL (P x)) (h2 : ∀ x, inL (P' x)) (hz : ZB Zs) (h3 : REr P P' Zs) : Rel ((p.1, p.2.1, p.2.2.1, p.2.2.2.1, p.2.2.2.2.1, p.2.2.2.2.2.1, p.2.2.2.2.2.2.1, p.2.2.2.2.2.2.2.1, P, Zs)) ((m.1, m.2.1, m.2.2.1, m.2.2.2.1, m.2.2.2.2.1, P', Zs, m.2.2.2.2.2.2.2)) := ⟨⟨h.1.1, h.1.2.1, h.1.2.2.1, h.1.2.2.2.1, h.1.2.2.2.2.1, h.1.2.2.2.2.2.1, h.1.2.2.2.2.2.2.1, h1, hz⟩, ⟨h.2.1.1, h.2.1.2.1, h.2.1.2.2.1, h.2.1.2.2.2.1, h.2.1.2.2.2.2.1, h.2.1.2.2.2.2.2.1, h2, hz⟩, h.2.2.1, h.2.2.2.1, h.2.2.2.2.1, h.2.2.2.2.2.1, h.2.2.2.2.2.2.1, h.2.2.2.2.2.2.2.1, rfl, h3, h.2.2.2.2.2.2.2.2.2.2⟩
theorem rel_list (h : Rel p m) (r n : Int) : (listF p.rp p.rz r n).1 = (listG m.rp m.rz r n).1 ∧ Rel ((p.1, p.2.1, p.2.2.1, p.2.2.2.1, p.2.2.2.2.1, p.2.2.2.2.2.1, p.2.2.2.2.2.2.1, p.2.2.2.2.2.2.2.1, (listF p.rp p.rz r n).2.1, (listF p.rp p.rz r n).2.2)) ((m.1, m.2.1, m.2.2.1, m.2.2.2.1, m.2.2.2.2.1, (listG m.rp m.rz r n).2.1, (listG m.rp m.rz r n).2.2, m.2.2.2.2.2.2.2)) := by
  have ez := h.2.2.2.2.2.2.2.2.1
  have hR := h.2.2.2.2.2.2.2.2.2.1
  have b1 := h.1.2.2.2.2.2.2.2.1
  have b2 := h.2.1.2.2.2.2.2.2.1
  have hz := h.1.2.2.2.2.2.2.2.2
  have hno : Rel ((p.1, p.2.1, p.2.2.1, p.2.2.2.1, p.2.2.2.2.1, p.2.2.2.2.2.1, p.2.2.2.2.2.2.1, p.2.2.2.2.2.2.2.1, p.rp, p.rz)) ((m.1, m.2.1, m.2.2.1, m.2.2.2.1, m.2.2.2.2.1, m.rp, p.rz, m.2.2.2.2.2.2.2)) := rel_PZ h b1 b2 hz hR
  unfold listF listG
  rw [← ez]
  by_cases c1 : 0 ≤ r ∧ r < 4
  · rw [cif_t c1, cif_t c1]
    by_cases c2 : 30 < n
    · rw [cif_t c2, cif_t c2]; exact ⟨rfl, hno⟩
    · rw [cif_f c2, cif_f c2]
      by_cases c3 : n < 0
      · rw [cif_t c3, cif_t c3]; exact ⟨rfl, hno⟩
      · rw [cif_f c3, cif_f c3]
        refine ⟨rfl, rel_PZ h (zer_b b1 r n) (zer_b b2 r 30) (ZB_u hz (by omega)) (fun r' j r1 r2 j1 j2 => ?_)⟩
        have hzr := hz r'
        have j2 : j < uI p.rz r n r' := j2
        show zer p.rp r n (r' * 30 + j) = zer m.rp r 30 (r' * 30 + j)
        by_cases e : r' = r
        · rw [e, uI_s] at j2
          rw [e]
          unfold zer
          rw [if_pos (by omega), if_pos (by omega)]
        · rw [uI_n _ _ e] at j2
          unfold zer
          rw [if_neg (by omega), if_neg (by omega)]
          exact hR r' j r1 r2 j1 j2
  · rw [cif_f c1, cif_f c1]; exact ⟨rfl, hno⟩
theorem rel_B (h : Rel p m) {b : Int → Int} {n : Int} (h1 : ∀ i, 0 ≤ b i ∧ b i ≤ 127) (h2 : 0 ≤ n ∧ n ≤ 120) : Rel ((p.1, p.2.1, p.2.2.1, p.2.2.2.1, p.2.2.2.2.1, p.2.2.2.2.2.1, b, n, p.2.2.2.2.2.2.2.2)) ((m.1, m.2.1, b, n, m.2.2.2.2)) := ⟨⟨h.1.1, h.1.2.1, h.1.2.2.1, h.1.2.2.2.1, h.1.2.2.2.2.1, h1, h2, h.1.2.2.2.2.2.2.2⟩, ⟨h.2.1.1, h.2.1.2.1, h.2.1.2.2.1, h.2.1.2.2.2.1, h1, h2, h.2.1.2.2.2.2.2.2⟩, h.2.2.1, h.2.2.2.1, h.2.2.2.2.1, rfl, rfl, h.2.2.2.2.2.2.2⟩
theorem rel_feed (h : Rel p m) (v : Int) : (feedF p.tb p.ts v).1 = (feedF m.tb m.ts v).1 ∧ Rel ((p.1, p.2.1, p.2.2.1, p.2.2.2.1, p.2.2.2.2.1, p.2.2.2.2.2.1, (feedF p.tb p.ts v).2.1, (feedF p.tb p.ts v).2.2, p.2.2.2.2.2.2.2.2)) ((m.1, m.2.1, (feedF m.tb m.ts v).2.1, (feedF m.tb m.ts v).2.2, m.2.2.2.2)) := by
  have e1 := h.2.2.2.2.2.1
  have e2 := h.2.2.2.2.2.2.1
  have b1 := h.1.2.2.2.2.2.1
  have b2 := h.1.2.2.2.2.2.2.1
  rw [← e1, ← e2]
  refine ⟨rfl, rel_B h (fun i => ?_) ?_⟩
  · unfold feedF
    by_cases c1 : 1 ≤ v ∧ v ≤ 127
    · rw [cif_t c1]
      by_cases c2 : 120 ≤ p.ts
      · rw [cif_t c2]; exact b1 i
      · rw [cif_f c2]
        show 0 ≤ uI p.tb p.ts v i ∧ uI p.tb p.ts v i ≤ 127
        by_cases e : i = p.ts
        · rw [e, uI_s]; omega
        · rw [uI_n _ _ e]; exact b1 i
    · rw [cif_f c1]; exact b1 i
  · unfold feedF
    by_cases c1 : 1 ≤ v ∧ v ≤ 127
    · rw [cif_t c1]
      by_cases c2 : 120 ≤ p.ts
      · rw [cif_t c2]; exact b2
      · rw [cif_f c2]
        show 0 ≤ p.ts + 1 ∧ p.ts + 1 ≤ 120
        omega
    · rw [cif_f c1]; exact b2
theorem rel_clear (h : Rel p m) : Rel ((p.1, p.2.1, p.2.2.1, p.2.2.2.1, p.2.2.2.2.1, p.2.2.2.2.2.1, p.tb, 0, p.2.2.2.2.2.2.2.2)) ((m.1, m.2.1, m.tb, 0, m.2.2.2.2)) := by
  rw [← h.2.2.2.2.2.1]
  exact rel_B h h.1.2.2.2.2.2.1 (by omega)
theorem Ag_cp {t u t' u' : TT} (h : Ag t u) (hn : t.2.2.2 ≤ 12) : Ag (tCp t' t) (tCp u' u) := by
  refine ⟨h.1, fun i i1 i2 => ?_⟩
  have i2' : i < t.2.2.2 := i2
  have hc : ∀ F G : Int → Int, cpI F G 12 i = F i := fun F G => by unfold cpI; rw [if_pos (by omega)]
  show cpI t.1 t'.1 12 i = cpI u.1 u'.1 12 i ∧ cpI t.2.1 t'.2.1 12 i = cpI u.2.1 u'.2.1 12 i ∧ cpI t.2.2.1 t'.2.2.1 12 i = cpI u.2.2.1 u'.2.2.1 12 i
  rw [hc, hc, hc, hc, hc, hc]
  exact h.2 i i1 i2'
theorem SB_cp {s s' : Int → Int} (h : SB s) : SB (cpI s s' 6) := by
  have hc : ∀ i : Int, 0 ≤ i → i < 6 → cpI s s' 6 i = s i := fun i i1 i2 => by unfold cpI; rw [if_pos (by omega)]
  unfold SB at h ⊢
  rw [hc 0 (by omega) (by omega), hc 1 (by omega) (by omega), hc 2 (by omega) (by omega), hc 3 (by omega) (by omega), hc 4 (by omega) (by omega), hc 5 (by omega) (by omega)]
  exact h
theorem TV_cpR {t w : TT} (h : RbT t) (h' : TV w) : TV (tCp t w) := by
  have h1 := h'.1.1
  have hc : ∀ F G : Int → Int, ∀ i, 0 ≤ i → i < w.2.2.2 → cpI F G 12 i = F i := fun F G i i1 i2 => by unfold cpI; rw [if_pos (by omega)]
  refine ⟨⟨h1, fun i => cpI_b h'.1.2.1 h.1 i, fun i => cpI_b h'.1.2.2.1 h.2.1 i, fun i => cpI_b h'.1.2.2.2 h.2.2 i⟩, ?_, ?_⟩
  · have e : tot (tCp t w) = tot w := sI_c (fun i i1 i2 => hc _ _ i i1 i2)
    rw [e]
    exact h'.2.1
  · intro k k1 k2
    have k3 : k < w.2.2.2 := k2
    show mb (cpI w.1 t.1 12 k) (cpI w.2.1 t.2.1 12 k) (cpI w.2.2.1 t.2.2.1 12 k)
    rw [hc _ _ k k1 k3, hc _ _ k k1 k3, hc _ _ k k1 k3]
    exact h'.2.2 k k1 k3
theorem rel_ptR (h : Rel p m) : RbT m.pt := by
  rcases h.2.2.2.2.2.2.2.2.2.2 with ⟨-, -, z⟩ | ⟨-, z⟩
  · exact z
  · rcases h.2.1.2.2.1 with y | y
    · have z1 : p.pt.2.2.2 = m.pt.2.2.2 := z.1
      have z2 : 0 ≤ p.pt.2.2.2 := h.1.2.2.1.1.1.1
      have y' : m.pt.2.2.2 = -1 := y
      omega
    · exact ⟨y.1.1.2.1, y.1.1.2.2.1, y.1.1.2.2.2⟩
theorem rel_img (h : Rel p m) : Rel (imgP p) (imgM m) := by
  have es := h.2.2.2.1
  have eps := h.2.2.2.2.1
  have hn : p.t.2.2.2 ≤ 12 := h.1.1.1.1.2
  refine ⟨⟨h.1.1, h.1.2.1, TV_cp h.1.2.2.1 h.1.1, Or.inr ⟨rfl, SB_cp h.1.2.1⟩, h.1.2.2.2.2⟩, ⟨h.2.1.1, h.2.1.2.1, Or.inr ⟨TV_cpR (rel_ptR h) h.2.1.1, SB_cp h.2.1.2.1⟩, h.2.1.2.2.2⟩, h.2.2.1, es, ?_, h.2.2.2.2.2.1, h.2.2.2.2.2.2.1, h.2.2.2.2.2.2.2.1, h.2.2.2.2.2.2.2.2.1, h.2.2.2.2.2.2.2.2.2.1, Or.inr ⟨rfl, Ag_cp h.2.2.1 hn⟩⟩
  show cpI p.s p.ps 6 = cpI m.s m.ps 6
  rw [es, eps]
theorem rel_und (h : Rel p m) : (undF p).1 = (undG m).1 ∧ Rel (undF p).2 (undG m).2 := by
  have es := h.2.2.2.1
  have eps := h.2.2.2.2.1
  unfold undF undG
  rcases h.2.2.2.2.2.2.2.2.2.2 with ⟨z1, z2, -⟩ | ⟨z1, z2⟩
  · rw [cif_t z1, cif_t z2]
    exact ⟨rfl, h⟩
  · have hT : TV p.pt := h.1.2.2.1
    have n1 : p.pt.2.2.2 = m.pt.2.2.2 := z2.1
    have n2 : 0 ≤ p.pt.2.2.2 := hT.1.1.1
    have n3 : p.pt.2.2.2 ≤ 12 := hT.1.1.2
    have hM : TV m.pt ∧ SB m.ps := by
      rcases h.2.1.2.2.1 with y | y
      · have y' : m.pt.2.2.2 = -1 := y
        omega
      · exact y
    have hS : SB p.ps := by
      rcases h.1.2.2.2.1 with y | y
      · omega
      · exact y.2
    rw [cif_f (by omega), cif_f (by omega)]
    refine ⟨n1, ⟨TV_cp h.1.1 hT, SB_cp hS, h.1.2.2⟩, ⟨TV_cp h.2.1.1 hM.1, SB_cp hM.2, h.2.1.2.2⟩, Ag_cp z2 n3, ?_, h.2.2.2.2⟩
    show cpI p.ps p.s 6 = cpI m.ps m.s 6
    rw [es, eps]
end RL
theorem PR_why {b : Int → Int} {n p : Int} (h : (PR b n p).1 = 0) : 1 ≤ (PR b n p).2.2.1 ∧ (PR b n p).2.2.1 ≤ 5 := by
  have hf : ∀ x y : Int, 1 ≤ y → y ≤ 5 → 1 ≤ (fl n x y).2.2.1 ∧ (fl n x y).2.2.1 ≤ 5 := fun x y y1 y2 => by
    show 1 ≤ (if x = n then 5 else y) ∧ (if x = n then 5 else y) ≤ 5
    split <;> omega
  unfold PR at h ⊢
  by_cases h1 : kd2 b n p = -1
  · rw [if_pos h1]; exact hf _ _ (by omega) (by omega)
  · rw [if_neg h1] at h ⊢
    unfold PR3 at h ⊢
    by_cases h2 : bt b n (wE b n p) = 32
    · rw [if_pos h2] at h ⊢
      by_cases h3 : (fg b n 3 (wE b n p + 1) 0).1 < 1 ∨ 360 < (fg b n 3 (wE b n p + 1) 0).1
      · rw [if_pos h3]; exact hf _ _ (by omega) (by omega)
      · rw [if_neg h3] at h ⊢
        unfold PR4 at h ⊢
        by_cases h4 : kd2 b n p = 0
        · rw [if_pos h4] at h
          exact absurd h (show (1 : Int) ≠ 0 by omega)
        · rw [if_neg h4] at h ⊢
          by_cases h5 : bt b n (fg b n 3 (wE b n p + 1) 0).2 = 32
          · rw [if_pos h5] at h ⊢
            unfold PR5 at h ⊢
            by_cases h6 : rsV b n ((fg b n 3 (wE b n p + 1) 0).2 + 1) = 0
            · rw [if_pos h6]; exact hf _ _ (by omega) (by omega)
            · rw [if_neg h6] at h
              exact absurd h (show (1 : Int) ≠ 0 by omega)
          · rw [if_neg h5]; exact hf _ _ (by omega) (by omega)
    · rw [if_neg h2]; exact hf _ _ (by omega) (by omega)
theorem tp_why {b : Int → Int} {n : Int} : ∀ (f : Nat) (p : Int) (cs : TT), (tp b n f p cs).1 = 0 → -5 ≤ (tp b n f p cs).2.2.1 ∧ (tp b n f p cs).2.2.1 ≤ 5 := by
  intro f
  induction f with
  | zero => intro p cs _; exact ⟨Int.le_refl _, by show (-5 : Int) ≤ 5; omega⟩
  | succ f ih =>
    intro p cs h
    unfold tp at h ⊢
    by_cases c1 : (PR b n p).1 = 0
    · rw [if_pos c1]
      have := PR_why c1
      exact ⟨by show -5 ≤ (PR b n p).2.2.1; omega, this.2⟩
    · rw [if_neg c1] at h ⊢
      by_cases c2 : (PR b n p).2.2.2.2 = n
      · rw [if_pos c2] at h
        exact absurd h (show (1 : Int) ≠ 0 by omega)
      · rw [if_neg c2] at h ⊢
        by_cases c3 : bt b n (PR b n p).2.2.2.2 = 59
        · rw [if_pos c3] at h ⊢
          exact ih _ _ h
        · rw [if_neg c3]
          exact ⟨by show (-5 : Int) ≤ 4; omega, by show (4 : Int) ≤ 5; omega⟩
theorem camF_lc {b : Int → Int} {n lc : Int} (h : -5 ≤ lc ∧ lc ≤ 7) : -5 ≤ (camF b n lc).2 ∧ (camF b n lc).2 ≤ 7 := by
  unfold camF
  by_cases c1 : (tpI b n 0 cs0).1 = 0
  · rw [cif_t c1]
    have := tp_why _ _ _ c1
    exact ⟨this.1, Int.le_trans this.2 (by omega)⟩
  · rw [cif_f c1]
    by_cases c2 : ufI (tpI b n 0 cs0).2.2.2 < 0
    · rw [cif_t c2]; exact h
    · rw [cif_f c2]
      show -5 ≤ (if ufI (tpI b n 0 cs0).2.2.2 = 12 then (6 : Int) else 7) ∧ (if ufI (tpI b n 0 cs0).2.2.2 = 12 then (6 : Int) else 7) ≤ 7
      split <;> omega
theorem AgT {t v w : TT} (h : Ag t v) (h' : Ag w v) : Ag t w := ⟨h.1.trans h'.1.symm, fun i i1 i2 => by
  have z := h.2 i i1 i2
  have y := h'.2 i i1 (by have := h.1; have := h'.1; omega)
  exact ⟨z.1.trans y.1.symm, z.2.1.trans y.2.1.symm, z.2.2.trans y.2.2.symm⟩⟩
theorem rel_cam {p : PS} {m : MP} (h : Rel p m) {t' w' : TT} (h1 : TV t') (h2 : camOk p.tb p.ts → Ag t' (tpI p.tb p.ts 0 cs0).2.2.2) (h3 : ¬ camOk p.tb p.ts → t' = p.t) (g1 : TV w') (g2 : camOk m.tb m.ts → Ag w' (tpI m.tb m.ts 0 cs0).2.2.2) (g3 : ¬ camOk m.tb m.ts → w' = m.t) : (camF p.tb p.ts p.lc).1 = (camF m.tb m.ts m.lc).1 ∧ Rel (camP p t') (w', m.2.1, m.2.2.1, 0, (camF m.tb m.ts m.lc).2, m.2.2.2.2.2) := by
  have e1 := h.2.2.2.2.2.1
  have e2 := h.2.2.2.2.2.2.1
  have e3 := h.2.2.2.2.2.2.2.1
  have hl := camF_lc (b := p.tb) (n := p.ts) h.1.2.2.2.2.1
  rw [← e1, ← e2] at g2 g3
  rw [← e1, ← e2, ← e3]
  have hA : Ag t' w' := by
    by_cases c : camOk p.tb p.ts
    · exact AgT (h2 c) (g2 c)
    · rw [h3 c, g3 c]; exact h.2.2.1
  exact ⟨rfl, ⟨h1, h.1.2.1, h.1.2.2.1, h.1.2.2.2.1, hl, h.1.2.2.2.2.2.1, ⟨Int.le_refl _, by show (0 : Int) ≤ 120; omega⟩, h.1.2.2.2.2.2.2.2⟩, ⟨g1, h.2.1.2.1, h.2.1.2.2.1, hl, h.2.1.2.2.2.2.1, ⟨Int.le_refl _, by show (0 : Int) ≤ 120; omega⟩, h.2.1.2.2.2.2.2.2⟩, hA, h.2.2.2.1, h.2.2.2.2.1, e1, rfl, rfl, h.2.2.2.2.2.2.2.2⟩
