/-! the answers, over what a train, settings, rows are -/
def tAp (t : TT) (a b c : Int) : TT := (uI t.1 t.2.2.2 a, uI t.2.1 t.2.2.2 b, uI t.2.2.1 t.2.2.2 c, t.2.2.2 + 1)
noncomputable def pieceF (t : TT) (k n r : Int) : Int × TT := cif (0 ≤ k ∧ k ≤ 5) (cif (mb k n r) (cif (12 ≤ t.2.2.2) (-4, t) (cif (360 < tot t + n) (-3, t) (t.2.2.2, tAp t k n r))) (-2, t)) (-1, t)
noncomputable def dropF (t : TT) : Int × TT := cif (t.2.2.2 = 0) (-3, t) (t.2.2.2 - 1, (t.1, t.2.1, t.2.2.1, t.2.2.2 - 1))
noncomputable def putG (t : TT) (j what kk ll rr : Int) : Int × TT := cif (mb kk ll rr) (cif (360 < tot t - t.2.1 j + ll) (-999, t) (ptOf t j what, tW t j kk ll rr)) (-999, t)
noncomputable def putF (t : TT) (j what v : Int) : Int × TT := cif (0 ≤ j ∧ j < t.2.2.2) (cif (0 ≤ what ∧ what ≤ 2) (putG t j what (if what = 0 then v else t.1 j) (if what = 1 then v else t.2.1 j) (if what = 2 then v else t.2.2.1 j)) (-999, t)) (-999, t)
noncomputable def ofF (t : TT) (j what : Int) : Int := cif (0 ≤ j ∧ j < t.2.2.2) (cif (0 ≤ what ∧ what ≤ 4) (if what = 3 then bg t j else if what = 4 then ah t j else ptOf t j what) (-9999)) (-9999)
noncomputable def tellF (s : Int → Int) (what v : Int) : Int × (Int → Int) := cif (0 ≤ what ∧ what < 6) (cif (v < leF what ∨ moF what < v) (-2, s) (s what, uI s what v)) (-1, s)
noncomputable def toldF (t : TT) (s : Int → Int) (n what : Int) : Int := cif (0 ≤ what ∧ what < 6) (s what) (if what = 6 then t.2.2.2 else if what = 7 then tot t else if what = 8 then bI (clo t) else if what = 9 then n else -1)
def mirT (t : TT) : TT := tnT t t.2.2.2 (-1)
/-- how many of the first -/
noncomputable def cnt (P : Int → Prop) : Nat → Int
  | 0 => 0
  | m + 1 => cnt P m + bI (P m)
noncomputable def cnI (P : Int → Prop) (n : Int) : Int := cnt P n.toNat
theorem cnI_0 (P : Int → Prop) : cnI P 0 = 0 := rfl
theorem cnI_s (P : Int → Prop) {n : Int} (h : 0 ≤ n) : cnI P (n + 1) = cnI P n + bI (P n) := by
  unfold cnI
  rw [show (n + 1).toNat = n.toNat + 1 by omega]
  show cnt P n.toNat + bI (P (n.toNat : Int)) = _
  rw [Int.toNat_of_nonneg h]
theorem cnt_bd (P : Int → Prop) : ∀ m : Nat, 0 ≤ cnt P m ∧ cnt P m ≤ m := by
  intro m
  induction m with
  | zero => exact ⟨Int.le_refl _, Int.le_refl _⟩
  | succ m ih =>
    have h2 := bI_01 (P m)
    show 0 ≤ cnt P m + bI (P m) ∧ cnt P m + bI (P m) ≤ ((m + 1 : Nat) : Int)
    omega
theorem cnI_bd (P : Int → Prop) {n : Int} (h : 0 ≤ n) : 0 ≤ cnI P n ∧ cnI P n ≤ n := by
  have := cnt_bd P n.toNat
  unfold cnI
  omega
theorem cnt_le (P : Int → Prop) (m : Nat) : ∀ d : Nat, cnt P m ≤ cnt P (m + d) := by
  intro d
  induction d with
  | zero => exact Int.le_refl _
  | succ d ih =>
    have h2 := bI_01 (P (m + d : Nat))
    show _ ≤ cnt P (m + d) + bI (P ((m + d : Nat) : Int))
    omega
theorem cnI_le (P : Int → Prop) {a b : Int} (h : 0 ≤ a) (h2 : a ≤ b) : cnI P a ≤ cnI P b := by
  unfold cnI
  have := cnt_le P a.toNat (b.toNat - a.toNat)
  rw [show a.toNat + (b.toNat - a.toNat) = b.toNat by omega] at this
  exact this
theorem cnt_c {P Q : Int → Prop} {m : Nat} (h : ∀ i : Int, 0 ≤ i → i < m → (P i ↔ Q i)) : cnt P m = cnt Q m := by
  induction m with
  | zero => rfl
  | succ m ih =>
    show cnt P m + bI (P m) = cnt Q m + bI (Q m)
    rw [ih (fun i h1 h2 => h i h1 (by omega)), bI_c (h m (by omega) (by omega))]
theorem cnI_c {P Q : Int → Prop} {n : Int} (h : ∀ i : Int, 0 ≤ i → i < n → (P i ↔ Q i)) : cnI P n = cnI Q n := by
  unfold cnI
  exact cnt_c (fun i h1 h2 => h i h1 (by omega))
noncomputable def alikeF (t : TT) (j : Int) : Int := cif (0 ≤ j ∧ j < t.2.2.2) (cnI (fun i => alk t i j) t.2.2.2) (-1)
/-- the unlike ones -/
def IsUn (t : TT) (k v : Int) : Prop := (0 ≤ v ∧ v < t.2.2.2 ∧ fst1 t v ∧ cnI (fst1 t) v = k) ∨ ((∀ j, 0 ≤ j → j < t.2.2.2 → fst1 t j → cnI (fst1 t) j ≠ k) ∧ v = if k = -1 then cnI (fst1 t) t.2.2.2 else -1)
theorem IsUn_un {t : TT} {k v v' : Int} (h : IsUn t k v) (h' : IsUn t k v') : v = v' := by
  have key : ∀ x y : Int, 0 ≤ x → x < y → fst1 t x → cnI (fst1 t) x = k → cnI (fst1 t) y = k → False := by
    intro x y hx hy h1 h2 h3
    have e := cnI_s (fst1 t) hx
    rw [bI_t h1] at e
    have := cnI_le (fst1 t) (show 0 ≤ x + 1 by omega) (show x + 1 ≤ y by omega)
    omega
  rcases h with ⟨h1, h2, h3, h4⟩ | ⟨h1, h2⟩ <;> rcases h' with ⟨g1, g2, g3, g4⟩ | ⟨g1, g2⟩
  · rcases Int.lt_trichotomy v v' with z | z | z
    · exact (key v v' h1 z h3 h4 g4).elim
    · exact z
    · exact (key v' v g1 z g3 g4 h4).elim
  · exact absurd h4 (g1 v h1 h2 h3)
  · exact absurd g4 (h1 v' g1 g2 g3)
  · omega
noncomputable def unlikeF (t : TT) (k : Int) : Int := theI (IsUn t k)
theorem unlikeF_eq {t : TT} {k v : Int} (h : IsUn t k v) : unlikeF t k = v := theI_eq h (fun x hx => IsUn_un hx h)
/-- the steepest of the first -/
noncomputable def spn (t : TT) : Nat → Int
  | 0 => -5
  | m + 1 => cif (spn t m < 0 ∨ stp t m (spn t m)) m (spn t m)
noncomputable def spI (t : TT) (n : Int) : Int := spn t n.toNat
theorem spI_0 (t : TT) : spI t 0 = -5 := rfl
theorem spI_s (t : TT) {n : Int} (h : 0 ≤ n) : spI t (n + 1) = cif (spI t n < 0 ∨ stp t n (spI t n)) n (spI t n) := by
  unfold spI
  rw [show (n + 1).toNat = n.toNat + 1 by omega]
  show cif (spn t n.toNat < 0 ∨ stp t (n.toNat : Int) (spn t n.toNat)) (n.toNat : Int) (spn t n.toNat) = _
  rw [Int.toNat_of_nonneg h]
theorem spn_bd (t : TT) : ∀ m : Nat, spn t m = -5 ∨ (0 ≤ spn t m ∧ spn t m < m) := by
  intro m
  induction m with
  | zero => exact Or.inl rfl
  | succ m ih =>
    show cif (spn t m < 0 ∨ stp t m (spn t m)) (m : Int) (spn t m) = -5 ∨ (0 ≤ cif (spn t m < 0 ∨ stp t m (spn t m)) (m : Int) (spn t m) ∧ cif (spn t m < 0 ∨ stp t m (spn t m)) (m : Int) (spn t m) < ((m + 1 : Nat) : Int))
    by_cases hz : spn t m < 0 ∨ stp t m (spn t m)
    · rw [cif_t hz]
      omega
    · rw [cif_f hz]
      omega
theorem spI_bd (t : TT) {n : Int} (h : 0 ≤ n) : spI t n = -5 ∨ (0 ≤ spI t n ∧ spI t n < n) := by
  have := spn_bd t n.toNat
  unfold spI
  omega
/-- a number at an angle, seen from a side -/
def IsAt (t : TT) (a sd : Int) (f : SS → Int) (v : Int) : Prop := (∃ k u, At t a sd k u ∧ v = f (pl t k u)) ∨ ((¬ ∃ k u, At t a sd k u) ∧ v = NOv)
noncomputable def atV (t : TT) (a sd : Int) (f : SS → Int) : Int := theI (IsAt t a sd f)
theorem atV_t {t : TT} (h : TV t) {a sd k u : Int} (hA : At t a sd k u) (f : SS → Int) : atV t a sd f = f (pl t k u) := by
  refine theI_eq (Or.inl ⟨k, u, hA, rfl⟩) ?_
  rintro x (⟨k2, u2, hB, rfl⟩ | ⟨hn, -⟩)
  · have e := At_un h hB hA
    rw [e.1, e.2]
  · exact absurd ⟨k, u, hA⟩ hn
theorem atV_f {t : TT} {a sd : Int} (hn : ¬ ∃ k u, At t a sd k u) (f : SS → Int) : atV t a sd f = NOv := by
  refine theI_eq (Or.inr ⟨hn, rfl⟩) ?_
  rintro x (⟨k2, u2, hB, rfl⟩ | ⟨-, hx⟩)
  · exact absurd ⟨k2, u2, hB⟩ hn
  · exact hx
def whV (what : Int) (s : SS) : Int := if what = 0 then lf s else if what = 1 then s.2.2.1 else s.2.2.2.1
noncomputable def atF (t : TT) (a sd what part : Int) : Int := cif (0 ≤ what ∧ what ≤ 2) (cif (part = 0 ∨ part = 1) (atV t a sd (fun s => lo (whV what s) s.1 part)) NOv) NOv
noncomputable def curveF (t : TT) (S : Int → Int) (a sd part : Int) : Int := cif (part = 0 ∨ part = 1) (atV t a sd (fun s => lo (cur S s) s.1 part)) NOv
noncomputable def pressF (t : TT) (S : Int → Int) (a sd part : Int) : Int := cif (part = 0 ∨ part = 1) (atV t a sd (fun s => cif (0 < rch S s) (lo (57 * s.2.2.1) (rch S s) part) NOv)) NOv
noncomputable def forceF (t : TT) (S : Int → Int) (a sd part : Int) : Int := cif (part = 0 ∨ part = 1) (atV t a sd (fun s => lo (frc S s) s.1 part)) NOv
noncomputable def sampleF (t : TT) (S : Int → Int) (a : Int) : Int := cif (0 < t.2.2.2 ∧ 0 ≤ a ∧ a ≤ tot t) (atV t a (if a = 0 then 1 else 0) (fun s => smp s (S 5))) NOv
/-! joins -/
def hj (t : TT) (j : Int) : Prop := (j = 0 ∧ clo t) ∨ (j ≠ 0 ∧ 0 ≤ j ∧ j < t.2.2.2)
def pa (t : TT) (j : Int) : Int := if j = 0 then t.2.2.2 - 1 else j - 1
def sbf (what : Int) (s : SS) : Int := if what = 1 then s.2.2.1 else s.2.2.2.1
def jpa (t : TT) (j what : Int) : Int := lo (sbf what (pl t j 0)) (pl t j 0).1 0 * lo (sbf what (pl t (pa t j) (t.2.1 (pa t j)))) (pl t (pa t j) (t.2.1 (pa t j))).1 1 - lo (sbf what (pl t (pa t j) (t.2.1 (pa t j)))) (pl t (pa t j) (t.2.1 (pa t j))).1 0 * lo (sbf what (pl t j 0)) (pl t j 0).1 1
def jpb (t : TT) (j what : Int) : Int := lo (sbf what (pl t j 0)) (pl t j 0).1 1 * lo (sbf what (pl t (pa t j) (t.2.1 (pa t j)))) (pl t (pa t j) (t.2.1 (pa t j))).1 1
noncomputable def jumpF (t : TT) (j what part : Int) : Int := cif (hj t j) (cif (0 ≤ what ∧ what ≤ 1) (cif (part = 0 ∨ part = 1) (lo (jpa t j (what + 1)) (jpb t j (what + 1)) part) NOv) NOv) NOv
noncomputable def jkd (t : TT) (j : Int) : Int := cif (jpa t j 1 = 0) (cif (jpa t j 2 = 0) 2 1) 0
noncomputable def joinF (t : TT) (j : Int) : Int := cif (hj t j) (jkd t j) (-1)
noncomputable def jbn (t : TT) (what : Int) : Nat → Int32
  | 0 => iI 0
  | m + 1 => cif (hj t m ∧ jkd t m = what) (jbn t what m ||| (iI 1 <<< (iI (m : Int) &&& 31))) (jbn t what m)
noncomputable def jbI (t : TT) (what n : Int) : Int32 := jbn t what n.toNat
theorem jbI_s (t : TT) (what : Int) {n : Int} (h : 0 ≤ n) : jbI t what (n + 1) = cif (hj t n ∧ jkd t n = what) (jbI t what n ||| (iI 1 <<< (iI n &&& 31))) (jbI t what n) := by
  unfold jbI
  rw [show (n + 1).toNat = n.toNat + 1 by omega]
  show cif (hj t (n.toNat : Int) ∧ jkd t (n.toNat : Int) = what) (jbn t what n.toNat ||| (iI 1 <<< (iI (n.toNat : Int) &&& 31))) (jbn t what n.toNat) = _
  rw [Int.toNat_of_nonneg h]
noncomputable def joinsF (t : TT) (what : Int) : Int := cif (0 ≤ what ∧ what ≤ 2) (jbI t what t.2.2.2).toInt (-1)
/-! lowest terms -/
theorem lo_p (a b : Int) (h : 0 < b) : 0 < lo a b 1 := by
  unfold lo
  rw [if_neg (by omega)]
  obtain ⟨c, hc⟩ := Int.gcd_dvd_right a b
  have hg := gcd_pos (a := a) h
  have e : b.tdiv ((Int.gcd a b : Nat) : Int) = c := by
    have := Int.mul_tdiv_cancel_left c (show ((Int.gcd a b : Nat) : Int) ≠ 0 by omega)
    rw [← hc] at this
    exact this
  rw [e]
  rcases Int.lt_or_le 0 c with z | z
  · exact z
  · exfalso
    have := Int.mul_nonpos_of_nonneg_of_nonpos (show 0 ≤ ((Int.gcd a b : Nat) : Int) by omega) z
    omega
theorem lo_g (a b p : Int) (h : 0 < b) : (if p = 0 then a else b) = ((Int.gcd a b : Nat) : Int) * lo a b p := by
  have hg := gcd_pos (a := a) h
  have key : ∀ x : Int, ((Int.gcd a b : Nat) : Int) ∣ x → x = ((Int.gcd a b : Nat) : Int) * x.tdiv ((Int.gcd a b : Nat) : Int) := by
    intro x hx
    obtain ⟨c, hc⟩ := hx
    have := Int.mul_tdiv_cancel_left c (show ((Int.gcd a b : Nat) : Int) ≠ 0 by omega)
    rw [← hc] at this
    rw [this]
    exact hc
  unfold lo
  split
  · exact key a (Int.gcd_dvd_left ..)
  · exact key b (Int.gcd_dvd_right ..)
theorem lo_z (a b : Int) (h : 0 < b) : lo a b 0 = 0 ↔ a = 0 := by
  have e := lo_g a b 0 h
  rw [if_pos rfl] at e
  constructor
  · intro z
    rw [z, Int.mul_zero] at e
    exact e
  · intro z
    unfold lo
    rw [if_pos rfl, z, Int.zero_tdiv]
/-- no more than any other way to write it -/
theorem lo_bd (a b p : Int) (h : 0 < b) {A : Int} (ha : -A ≤ a ∧ a ≤ A) {B : Int} (hb : b ≤ B) : (-A ≤ lo a b 0 ∧ lo a b 0 ≤ A) ∧ (0 < lo a b 1 ∧ lo a b 1 ≤ B) := by
  have hg := gcd_pos (a := a) h
  have e0 := lo_g a b 0 h
  have e1 := lo_g a b 1 h
  have h1 := lo_p a b h
  rw [if_pos rfl] at e0
  rw [if_neg (by omega)] at e1
  refine ⟨dv (c := ((Int.gcd a b : Nat) : Int)) (by omega) (by omega), h1, ?_⟩
  have := dv (c := ((Int.gcd a b : Nat) : Int)) (x := lo a b 1) (A := B) (by omega) (by omega)
  exact this.2
theorem lo_eq (a b c d p : Int) (hb : 0 < b) (hd : 0 < d) (h : a * d = c * b) : lo a b p = lo c d p := by
  rw [← lo_mul a b p hd, ← lo_mul c d p hb, Int.mul_comm d a, h, Int.mul_comm c b, Int.mul_comm d b]
