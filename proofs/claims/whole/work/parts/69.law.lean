/-! the law: its world: the script, what is static, the class, the model -/
def eL (L : Nat) (F : Int → Int) (p : PS) (rj : RJ) (s : SS) (w : WW) (g : RR) (q q2 : Int × Int) (sm co : Int → Int) (m : MP) (he fa li sl be ov av bl : Int) (kw sm2 : Int → Int) (ma mf mw : Int) (cj : TT) : List zE := [
  aR L F,
  zT [("CamPieces", "LEAST_SETTINGS", "[I", .ref 2), ("CamPieces", "MOST_SETTINGS", "[I", .ref 3), ("CamPieces", "FIRST_SETTINGS", "[I", .ref 4), ("java/lang/String", "COMPACT_STRINGS", "Z", .int (iI 1))],
  aR 6 leF,
  aR 6 moF,
  aR 6 fiF,
  zS 0 11,
  zS 1 12,
  zS 2 13,
  zS 3 14,
  zS 4 15,
  zS 5 16,
  aB 5 (stB 0),
  aB 4 (stB 1),
  aB 5 (stB 2),
  aB 4 (stB 3),
  aB 5 (stB 4),
  aB 7 (stB 5),
  zU,
  zO 7 [.ref 19, .ref 23, .ref 24, .ref 28, .int (iI p.ip), .ref 29, .int (iI p.lc), .ref 35, .ref 38, .ref 39, .ref 40, .ref 41, .ref 42, .ref 43, .ref 44],
  zO 5 [.ref 20, .ref 21, .ref 22, .int (iI p.t.2.2.2)],
  aI 12 p.t.1,
  aI 12 p.t.2.1,
  aI 12 p.t.2.2.1,
  aI 6 p.s,
  zO 5 [.ref 25, .ref 26, .ref 27, .int (iI p.pt.2.2.2)],
  aI 12 p.pt.1,
  aI 12 p.pt.2.1,
  aI 12 p.pt.2.2.1,
  aI 6 p.ps,
  zO 2 [.ref 30, .int (iI p.ts), .ref 31, .int (iI rj.2.1), .int (iI rj.2.2.1), .int (iI rj.2.2.2.1), .int (iI rj.2.2.2.2.1), .int (iI rj.2.2.2.2.2)],
  aI 120 p.tb,
  zO 5 [.ref 32, .ref 33, .ref 34, .int (iI rj.1.2.2.2)],
  aI 12 rj.1.1,
  aI 12 rj.1.2.1,
  aI 12 rj.1.2.2.1,
  zO 3 [.ref 36, .ref 37],
  aL 120 p.rp,
  aI 4 p.rz,
  oS s,
  oK w,
  zO 0 [.long (lI g.1), .long (lI g.2.1), .int (iI g.2.2)],
  zO 1 [.long (lI q.1), .long (lI q.2)],
  zO 1 [.long (lI q2.1), .long (lI q2.2)],
  aL 361 sm,
  aI 12 co,
  zO 8 [.int (iI m.t.2.2.2), .ref 46, .ref 47, .ref 48, .ref 49, .ref 50, .ref 51, .int (iI he), .int (iI fa), .long (lI li), .long (lI sl), .long (lI be), .long (lI ov), .long (lI av), .long (lI bl), .ref 52, .ref 53, .ref 54, .int (iI m.ts), .int (iI ma), .int (iI mf), .int (iI mw), .int (iI m.lc), .int (iI cj.2.2.2), .ref 55, .ref 56, .ref 57, .ref 58, .ref 59, .ref 60, .int (iI m.pt.2.2.2), .ref 61, .ref 62, .ref 63, .ref 64],
  aI 13 m.t.1,
  aI 13 m.t.2.1,
  aI 13 m.t.2.2.1,
  aI 6 m.s,
  aI 6 leF,
  aI 6 moM,
  aI 13 kw,
  aL 361 sm2,
  aI 120 m.tb,
  aI 120 cj.1,
  aI 120 cj.2.1,
  aI 120 cj.2.2.1,
  aI 42 wdF,
  aI 4 m.rz,
  aL 120 m.rp,
  aI 12 m.pt.1,
  aI 12 m.pt.2.1,
  aI 12 m.pt.2.2.1,
  aI 6 m.ps]
def isLC : List Nat := [18, 19, 20, 21, 22, 23, 24, 25, 26, 27, 28, 29, 30, 31, 32, 33, 34, 35, 36, 37, 38, 39, 40, 41, 42, 43, 44, 1, 2, 3, 4, 5, 6, 7, 8, 9, 10, 11, 12, 13, 14, 15, 16, 17]
def isLM : List Nat := [45, 46, 47, 48, 49, 50, 51, 52, 53, 54, 55, 56, 57, 58, 59, 60, 61, 62, 63, 64]
section LW
variable (L : Nat) (F : Int → Int) (p : PS) (rj : RJ) (s : SS) (w : WW) (g : RR) (q q2 : Int × Int) (sm co : Int → Int) (m : MP) (he fa li sl be ov av bl : Int) (kw sm2 : Int → Int) (ma mf mw : Int) (cj : TT)
theorem emLC : zEmb isLC (eL L F p rj s w g q q2 sm co m he fa li sl be ov av bl kw sm2 ma mf mw cj) (eC p rj s w g q q2 sm co) := ⟨by decide +kernel, (zEL.c (Or.inl rfl) (zEL.c (Or.inl rfl) (zEL.c (Or.inl rfl) (zEL.c (Or.inl rfl) (zEL.c (Or.inl rfl) (zEL.c (Or.inl rfl) (zEL.c (Or.inl rfl) (zEL.c (Or.inl rfl) (zEL.c (Or.inl rfl) (zEL.c (Or.inl rfl) (zEL.c (Or.inl rfl) (zEL.c (Or.inl rfl) (zEL.c (Or.inl rfl) (zEL.c (Or.inl rfl) (zEL.c (Or.inl rfl) (zEL.c (Or.inl rfl) (zEL.c (Or.inl rfl) (zEL.c (Or.inl rfl) (zEL.c (Or.inl rfl) (zEL.c (Or.inl rfl) (zEL.c (Or.inl rfl) (zEL.c (Or.inl rfl) (zEL.c (Or.inl rfl) (zEL.c (Or.inl rfl) (zEL.c (Or.inl rfl) (zEL.c (Or.inl rfl) (zEL.c (Or.inl rfl) (zEL.c (Or.inl rfl) (zEL.c (Or.inl rfl) (zEL.c (Or.inl rfl) (zEL.c (Or.inl rfl) (zEL.c (Or.inl rfl) (zEL.c (Or.inl rfl) (zEL.c (Or.inl rfl) (zEL.c (Or.inl rfl) (zEL.c (Or.inl rfl) (zEL.c (Or.inl rfl) (zEL.c (Or.inl rfl) (zEL.c (Or.inl rfl) (zEL.c (Or.inl rfl) (zEL.c (Or.inl rfl) (zEL.c (Or.inl rfl) (zEL.c (Or.inl rfl) (zEL.c (Or.inl rfl) zEL.n))))))))))))))))))))))))))))))))))))))))))))⟩
theorem emLM : zEmb isLM (eL L F p rj s w g q q2 sm co m he fa li sl be ov av bl kw sm2 ma mf mw cj) (eM m he fa li sl be ov av bl kw sm2 ma mf mw cj) := ⟨by decide +kernel, (zEL.c (Or.inl rfl) (zEL.c (Or.inl rfl) (zEL.c (Or.inl rfl) (zEL.c (Or.inl rfl) (zEL.c (Or.inl rfl) (zEL.c (Or.inl rfl) (zEL.c (Or.inl rfl) (zEL.c (Or.inl rfl) (zEL.c (Or.inl rfl) (zEL.c (Or.inl rfl) (zEL.c (Or.inl rfl) (zEL.c (Or.inl rfl) (zEL.c (Or.inl rfl) (zEL.c (Or.inl rfl) (zEL.c (Or.inl rfl) (zEL.c (Or.inl rfl) (zEL.c (Or.inl rfl) (zEL.c (Or.inl rfl) (zEL.c (Or.inl rfl) (zEL.c (Or.inl rfl) zEL.n))))))))))))))))))))⟩
end LW
/-- what a merge gives, place by place -/
def zFd : List Nat → List zE → Nat → Option zE
  | i :: is, e :: out, k => if i = k ∧ zrw e = true then some e else zFd is out k
  | _, _, _ => none
def zFr (f : Nat → Nat) (is : List Nat) (out : List zE) : Nat → List zE → List zE → Prop
  | k, a :: mem, b :: mem' => (match zFd is out k with | some e => b = renE f e | none => b = a) ∧ zFr f is out (k + 1) mem mem'
  | _, [], [] => True
  | _, _, _ => False
theorem zFd_some {is : List Nat} {out : List zE} {j k : Nat} {e : zE} : is.Nodup → is[j]? = some k → out[j]? = some e → zrw e = true → zFd is out k = some e := by
  induction is generalizing out j with
  | nil => intro _ h; simp at h
  | cons i is ih =>
    intro hn h1 h2 h3
    cases out with
    | nil => simp at h2
    | cons e0 out =>
      unfold zFd
      cases j with
      | zero =>
        simp at h1 h2
        subst h1
        subst h2
        rw [if_pos ⟨rfl, h3⟩]
      | succ j =>
        simp at h1 h2
        have hn2 := List.nodup_cons.mp hn
        have hik : i ≠ k := fun y => by
          subst y
          exact hn2.1 (List.mem_of_getElem? h1)
        rw [if_neg (fun y => hik y.1)]
        exact ih hn2.2 h1 h2 h3
theorem zFd_none {is : List Nat} {out : List zE} {k : Nat} : (∀ (j : Nat) (e : zE), is[j]? = some k → out[j]? = some e → zrw e = false) → zFd is out k = none := by
  induction is generalizing out with
  | nil => intro _; cases out <;> rfl
  | cons i is ih =>
    intro h
    cases out with
    | nil => rfl
    | cons e0 out =>
      unfold zFd
      rw [if_neg]
      · exact ih (fun j e h1 h2 => h (j + 1) e (by simpa using h1) (by simpa using h2))
      · rintro ⟨rfl, h3⟩
        have := h 0 e0 (by simp) (by simp)
        rw [this] at h3
        cases h3
theorem zFr_at {f : Nat → Nat} {is : List Nat} {out : List zE} : ∀ {mem mem' : List zE} {k : Nat}, zFr f is out k mem mem' → mem.length = mem'.length ∧ ∀ (j : Nat) (a b : zE), mem[j]? = some a → mem'[j]? = some b → (match zFd is out (k + j) with | some e => b = renE f e | none => b = a) := by
  intro mem
  induction mem with
  | nil =>
    intro mem' k h
    cases mem' with
    | nil => exact ⟨rfl, fun j a b h => by simp at h⟩
    | cons b mem' => exact h.elim
  | cons a mem ih =>
    intro mem' k h
    cases mem' with
    | nil => exact h.elim
    | cons b mem' =>
      obtain ⟨h1, h2⟩ := ih h.2
      refine ⟨by simp [h1], fun j a' b' g1 g2 => ?_⟩
      cases j with
      | zero =>
        simp at g1 g2
        subst g1
        subst g2
        exact h.1
      | succ j =>
        simp at g1 g2
        have := h2 j a' b' g1 g2
        rw [show k + 1 + j = k + (j + 1) by omega] at this
        exact this
theorem mg_fr {f : Nat → Nat} {is : List Nat} {out mem mem' : List zE} (hn : is.Nodup) (h : zFr f is out 0 mem mem') : zMg f is out mem = mem' := by
  obtain ⟨h1, h2⟩ := zFr_at h
  refine List.ext_getElem? (fun k => ?_)
  have hlen := zMg_len f is out mem
  by_cases hk : k < mem.length
  · have e1 : (zMg f is out mem)[k]? = some ((zMg f is out mem)[k]'(by omega)) := List.getElem?_eq_getElem _
    have e2 : mem'[k]? = some (mem'[k]'(by omega)) := List.getElem?_eq_getElem _
    have e3 : mem[k]? = some (mem[k]'hk) := List.getElem?_eq_getElem _
    have z := h2 k _ _ e3 e2
    rw [Nat.zero_add] at z
    rw [e1, e2]
    congr 1
    rcases zMg_at hn e1 with ⟨j, e, g1, g2, g3, g4⟩ | ⟨g1, g2⟩
    · rw [zFd_some hn g1 g2 g3] at z
      rw [g4]
      exact z.symm
    · rw [zFd_none g2] at z
      have g5 := Option.some.inj (g1.symm.trans e3)
      rw [g5]
      exact z.symm
  · rw [List.getElem?_eq_none (by omega), List.getElem?_eq_none (by omega)]
section LW
variable (L : Nat) (F : Int → Int) (p : PS) (rj : RJ) (s : SS) (w : WW) (g : RR) (q q2 : Int × Int) (sm co : Int → Int) (m : MP) (he fa li sl be ov av bl : Int) (kw sm2 : Int → Int) (ma mf mw : Int) (cj : TT)
theorem mgLC (p' : PS) (rj' : RJ) (s' : SS) (w' : WW) (g' : RR) (q' q2' : Int × Int) (sm' co' : Int → Int) : zMg (zr isLC) isLC (eC p' rj' s' w' g' q' q2' sm' co') (eL L F p rj s w g q q2 sm co m he fa li sl be ov av bl kw sm2 ma mf mw cj) = eL L F p' rj' s' w' g' q' q2' sm' co' m he fa li sl be ov av bl kw sm2 ma mf mw cj := mg_fr (by decide +kernel) ⟨rfl, ⟨rfl, ⟨rfl, ⟨rfl, ⟨rfl, ⟨rfl, ⟨rfl, ⟨rfl, ⟨rfl, ⟨rfl, ⟨rfl, ⟨rfl, ⟨rfl, ⟨rfl, ⟨rfl, ⟨rfl, ⟨rfl, ⟨rfl, ⟨rfl, ⟨rfl, ⟨rfl, ⟨rfl, ⟨rfl, ⟨rfl, ⟨rfl, ⟨rfl, ⟨rfl, ⟨rfl, ⟨rfl, ⟨rfl, ⟨rfl, ⟨rfl, ⟨rfl, ⟨rfl, ⟨rfl, ⟨rfl, ⟨rfl, ⟨rfl, ⟨rfl, ⟨rfl, ⟨rfl, ⟨rfl, ⟨rfl, ⟨rfl, ⟨rfl, ⟨rfl, ⟨rfl, ⟨rfl, ⟨rfl, ⟨rfl, ⟨rfl, ⟨rfl, ⟨rfl, ⟨rfl, ⟨rfl, ⟨rfl, ⟨rfl, ⟨rfl, ⟨rfl, ⟨rfl, ⟨rfl, ⟨rfl, ⟨rfl, ⟨rfl, ⟨rfl, trivial⟩⟩⟩⟩⟩⟩⟩⟩⟩⟩⟩⟩⟩⟩⟩⟩⟩⟩⟩⟩⟩⟩⟩⟩⟩⟩⟩⟩⟩⟩⟩⟩⟩⟩⟩⟩⟩⟩⟩⟩⟩⟩⟩⟩⟩⟩⟩⟩⟩⟩⟩⟩⟩⟩⟩⟩⟩⟩⟩⟩⟩⟩⟩⟩⟩
theorem mgLM (m' : MP) (he' fa' li' sl' be' ov' av' bl' : Int) (kw' sm2' : Int → Int) (ma' mf' mw' : Int) (cj' : TT) : zMg (zr isLM) isLM (eM m' he' fa' li' sl' be' ov' av' bl' kw' sm2' ma' mf' mw' cj') (eL L F p rj s w g q q2 sm co m he fa li sl be ov av bl kw sm2 ma mf mw cj) = eL L F p rj s w g q q2 sm co m' he' fa' li' sl' be' ov' av' bl' kw' sm2' ma' mf' mw' cj' := mg_fr (by decide +kernel) ⟨rfl, ⟨rfl, ⟨rfl, ⟨rfl, ⟨rfl, ⟨rfl, ⟨rfl, ⟨rfl, ⟨rfl, ⟨rfl, ⟨rfl, ⟨rfl, ⟨rfl, ⟨rfl, ⟨rfl, ⟨rfl, ⟨rfl, ⟨rfl, ⟨rfl, ⟨rfl, ⟨rfl, ⟨rfl, ⟨rfl, ⟨rfl, ⟨rfl, ⟨rfl, ⟨rfl, ⟨rfl, ⟨rfl, ⟨rfl, ⟨rfl, ⟨rfl, ⟨rfl, ⟨rfl, ⟨rfl, ⟨rfl, ⟨rfl, ⟨rfl, ⟨rfl, ⟨rfl, ⟨rfl, ⟨rfl, ⟨rfl, ⟨rfl, ⟨rfl, ⟨rfl, ⟨rfl, ⟨rfl, ⟨rfl, ⟨rfl, ⟨rfl, ⟨rfl, ⟨rfl, ⟨rfl, ⟨rfl, ⟨rfl, ⟨rfl, ⟨rfl, ⟨rfl, ⟨rfl, ⟨rfl, ⟨rfl, ⟨rfl, ⟨rfl, ⟨rfl, trivial⟩⟩⟩⟩⟩⟩⟩⟩⟩⟩⟩⟩⟩⟩⟩⟩⟩⟩⟩⟩⟩⟩⟩⟩⟩⟩⟩⟩⟩⟩⟩⟩⟩⟩⟩⟩⟩⟩⟩⟩⟩⟩⟩⟩⟩⟩⟩⟩⟩⟩⟩⟩⟩⟩⟩⟩⟩⟩⟩⟩⟩⟩⟩⟩⟩
end LW
/-! the law: a piece of its instructions at a time -/
def XL (l : Launch) (nm : String) (I : List (Nat × Instr × Nat × Nat)) : zX := (l, (⟨"CamPiecesLaw", nm, "([I)Z"⟩, code, 4, some .boolean, I), room_1, (47, 1946), true, zAi 1 (fun _ => True))
theorem Z_subI {l : Launch} {nm : String} {I I' : List (Nat × Instr × Nat × Nat)} {kc ks : Nat} {mem : List zE} {pc : Nat} {lv : List (Nat × Value)} {st : List Value} (hd : ∀ q ∈ I', decode code q.1 = .ok (q.2.1, q.2.2.1) ∧ q.1 + q.2.2.1 = q.2.2.2) (h : Z (XL l nm I') kc ks mem pc lv st) : Z (XL l nm I) kc ks mem pc lv st := fun D cI cL ad ad0 n0 A p e s m args below meth c H locs ls _ hB hWd hag hn hA hS hl => h D cI cL ad ad0 n0 A p e s m args below meth c H locs ls hd hB hWd hag hn hA hS hl
theorem Z_nilI {l : Launch} {nm : String} {I : List (Nat × Instr × Nat × Nat)} {kc ks : Nat} {mem : List zE} {pc : Nat} {lv : List (Nat × Value)} {st : List Value} (h : Z (XL l nm []) kc ks mem pc lv st) : Z (XL l nm I) kc ks mem pc lv st := Z_subI (fun q hq => absurd hq List.not_mem_nil) h
section SM
variable {X : zX} {kc ks : Nat} {mem : List zE} {pc n : Nat} {lv : List (Nat × Value)} {st : List Value}
theorem Z_sameI (k : Nat) {x : Int32} {off : Int} {tgt : Nat} (h : X.I[k]? = some (pc, .if_icmp .eq off, 3, n)) (ht : (pc : Int) + off = (tgt : Int)) (kt : Z X kc ks mem tgt lv st) : Z X kc ks mem pc lv (.int x :: .int x :: st) := by
  intro D cI cL ad ad0 n0 A p e s m args below meth c H locs ls hd hB hWd hag hn hA hS hl
  obtain ⟨h1, rfl⟩ := zI_dec hd h
  exact lv_icmp_eq hB.1 hB.2.1 h1 ht (fun _ => kt D cI cL ad ad0 n0 A p e s m args below meth c H locs ls hd hB hWd hag hn hA hS hl) (fun z => absurd rfl z)
theorem Z_sameL (k : Nat) {v off : Int} {tgt n1 : Nat} (h : X.I[k]? = some (pc, .lcmp, 1, n1)) (h2 : X.I[k + 1]? = some (n1, .ifCond .eq off, 3, n)) (ht : (n1 : Int) + off = (tgt : Int)) (kt : Z X kc ks mem tgt lv st) : Z X kc ks mem pc lv (.long (lI v) :: .long (lI v) :: st) := by
  have e : lI v = lI (lI v).toInt := (lI_o _).symm
  rw [e]
  exact Z_lc_eq k h h2 ht (lI_in _) (lI_in _) (fun _ => kt) (fun z => absurd rfl z)
end SM
def lgV (a b : Int) : Int := ((lI a <<< ((iI 32).toInt64 &&& 63)) ||| (lI b &&& lI 4294967295)).toInt
theorem lgV_in (a b : Int) : inL (lgV a b) := lI_in _
def KK (l : Launch) (nm : String) (L : Nat) (F : Int → Int) (i : Int) : Prop := ∀ (p : PS) (rj : RJ) (s : SS) (w : WW) (g : RR) (q q2 : Int × Int) (sm co : Int → Int) (m : MP) (he fa li sl be ov av bl : Int) (kw sm2 : Int → Int) (ma mf mw : Int) (cj : TT), Rel p m → TV rj.1 → Z (XL l nm []) 47 1946 (eL L F p rj s w g q q2 sm co m he fa li sl be ov av bl kw sm2 ma mf mw cj) 1333 [(0, .ref 0), (1, .ref 18), (2, .ref 45), (3, .int (iI i))] []
