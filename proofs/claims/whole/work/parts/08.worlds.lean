/-! the cells of each kind of object, by what they hold -/
def rfs (f : Nat → Nat) : (Nat → Int32) ⊕ (Nat → Int64) ⊕ (Nat → UInt32) ⊕ (Nat → UInt64) ⊕ (Nat → Option Nat) := .inr (.inr (.inr (.inr (fun i => some (f i)))))
/-- a tableau: how many rows, how many places, the rows' lengths, the numbers -/
def wT (k : Nat → ClassId) (a : Nat → Nat) (R P : Int32) (L : Nat → Int32) (N : Nat → Nat → Int32) : va_W :=
  [(a 0, .inr (2, [.ref (a 1), .ref (a 2), .int R, .int P])), (a 1, .inl (k 3, 9, rfs (fun i => a (i + 3)))), (a 2, .inl (k 0, 9, .inl L))] ++ (List.range 9).map (fun i => (a (i + 3), .inl (k 0, 40, .inl (N i))))
/-- a sheet -/
def wS (k : Nat → ClassId) (a : Nat → Nat) (I : Nat → Int64) (Ln Sz : Int32) : va_W :=
  [(a 0, .inr (1, [.ref (a 1), .int Ln, .int Sz])), (a 1, .inl (k 1, 36, .inr (.inl I)))]
/-- the box -/
def wG (k : Nat → ClassId) (a : Nat → Nat) (M N : Int32) (C Gr : Nat → Nat → Int32) (Pr : Nat → Nat → Int64) (Pa : Nat → Nat → Int32) : va_W :=
  [(a 0, .inr (0, [.int M, .int N, .ref (a 1), .ref (a 2), .ref (a 3), .ref (a 4)])), (a 1, .inl (k 3, 6, rfs (fun i => a (i + 5)))), (a 2, .inl (k 3, 6, rfs (fun i => a (i + 11)))), (a 3, .inl (k 4, 6, rfs (fun i => a (i + 17)))), (a 4, .inl (k 3, 49, rfs (fun i => a (i + 23))))] ++
  ((List.range 6).map (fun i => (a (i + 5), .inl (k 0, 6, .inl (C i)))) ++ ((List.range 6).map (fun i => (a (i + 11), .inl (k 0, 6, .inl (Gr i)))) ++ ((List.range 6).map (fun i => (a (i + 17), .inl (k 1, 6, .inr (.inl (Pr i))))) ++ (List.range 49).map (fun i => (a (i + 23), .inl (k 0, 6, .inl (Pa i)))))))
/-- the word with its two tableaux -/
def wW (k : Nat → ClassId) (w : Nat) (ap aq : Nat → Nat) (pR pP : Int32) (pL : Nat → Int32) (pN : Nat → Nat → Int32) (qR qP : Int32) (qL : Nat → Int32) (qN : Nat → Nat → Int32) : va_W :=
  [(w, .inr (3, [.ref (ap 0), .ref (aq 0)]))] ++ (wT k ap pR pP pL pN ++ wT k aq qR qP qL qN)
def wSS (k : Nat → ClassId) (a : Nat → Nat) (I : Nat → Nat → Int64) (Ln Sz : Nat → Int32) : va_W := (List.range 4).flatMap (fun s => wS k (fun j => a (2 * s + j)) (I s) (Ln s) (Sz s))
def wSr (k : Nat → ClassId) (a : Nat → Nat) (I : Nat → Nat → Int64) (Ln Sz : Nat → Int32) (i : Nat) : va_W := ((List.range 4).erase i).flatMap (fun s => wS k (fun j => a (2 * s + j)) (I s) (Ln s) (Sz s))
/-- the whole object -/
def wX (k : Nat → ClassId) (b ag as ap aq aa ab : Nat → Nat) (M N : Int32) (C Gr : Nat → Nat → Int32) (Pr : Nat → Nat → Int64) (Pa : Nat → Nat → Int32) (I : Nat → Nat → Int64) (Ln Sz : Nat → Int32) (dr : Nat → Int32) (pR pP : Int32) (pL : Nat → Int32) (pN : Nat → Nat → Int32) (qR qP : Int32) (qL : Nat → Int32) (qN : Nat → Nat → Int32) (aR aP : Int32) (aL : Nat → Int32) (aN : Nat → Nat → Int32) (bR bP : Int32) (bL : Nat → Int32) (bN : Nat → Nat → Int32) : va_W :=
  [(b 0, .inr (4, [.ref (ag 0), .ref (b 1), .ref (b 2), .ref (aa 0), .ref (ab 0), .ref (b 3)]))] ++ ([(b 1, .inl (k 5, 4, rfs (fun i => as (2 * i))))] ++ ([(b 2, .inr (3, [.ref (ap 0), .ref (aq 0)]))] ++ ([(b 3, .inl (k 0, 40, .inl dr))] ++ (wG k ag M N C Gr Pr Pa ++ (wSS k as I Ln Sz ++ (wT k ap pR pP pL pN ++ (wT k aq qR qP qL qN ++ (wT k aa aR aP aL aN ++ wT k ab bR bP bL bN))))))))
/-- the other one -/
def wM (k : Nat → ClassId) (a : Nat → Nat) (mm nn : Int32) (we la si it be pa : Nat → Int32) (su : Nat → Int64) (wo : Nat → Int32) (le : Int32) (pp qq ro lo lp lq rp rq se : Nat → Int32) (no ne : Nat → Int64) : va_W :=
  [(a 0, .inr (5, [.int mm, .int nn, .ref (a 1), .ref (a 2), .ref (a 3), .ref (a 4), .ref (a 5), .ref (a 6), .ref (a 7), .ref (a 8), .int le, .ref (a 9), .ref (a 10), .ref (a 11), .ref (a 12), .ref (a 13), .ref (a 14), .ref (a 15), .ref (a 16), .ref (a 17), .ref (a 18), .ref (a 19)])),
   (a 1, .inl (k 0, 36, .inl we)), (a 2, .inl (k 0, 4, .inl la)), (a 3, .inl (k 0, 4, .inl si)), (a 4, .inl (k 0, 144, .inl it)), (a 5, .inl (k 0, 36, .inl be)), (a 6, .inl (k 0, 294, .inl pa)), (a 7, .inl (k 1, 36, .inr (.inl su))), (a 8, .inl (k 0, 40, .inl wo)), (a 9, .inl (k 0, 360, .inl pp)), (a 10, .inl (k 0, 360, .inl qq)), (a 11, .inl (k 0, 9, .inl ro)), (a 12, .inl (k 0, 40, .inl lo)), (a 13, .inl (k 0, 360, .inl lp)), (a 14, .inl (k 0, 360, .inl lq)), (a 15, .inl (k 0, 9, .inl rp)), (a 16, .inl (k 0, 9, .inl rq)), (a 17, .inl (k 2, 41, .inl se)), (a 18, .inl (k 1, 729, .inr (.inl no))), (a 19, .inl (k 1, 729, .inr (.inl ne)))]
theorem xUp_map {β : Type} {n i : Nat} {a : Nat → Nat} {f : Nat → β} {e : β → va_E} {v : β} (d : Nat) : (List.range n).map (fun j => if j = i then ((a (i + d), e v) : Nat × va_E) else (a (j + d), e (f j))) = (List.range n).map (fun j => (a (j + d), e (if j = i then v else f j))) := by
  apply List.map_congr_left
  intro j _
  by_cases h : j = i
  · subst h; simp
  · simp [h]
theorem wT_row {k : Nat → ClassId} {a : Nat → Nat} {R P : Int32} {L : Nat → Int32} {N : Nat → Nat → Int32} {i : Nat} (h : i < 9) : (wT k a R P L N)[i + 3]? = some (a (i + 3), .inl (k 0, 40, .inl (N i))) :=
  xRow_at (α := Nat × va_E) [_, _, _] 9 i (fun i => (a (i + 3), .inl (k 0, 40, .inl (N i)))) h
theorem wT_put {k : Nat → ClassId} {a : Nat → Nat} {R P : Int32} {L : Nat → Int32} {N : Nat → Nat → Int32} {i : Nat} {v : Nat → Int32} (h : i < 9) : (wT k a R P L N).set (i + 3) (a (i + 3), .inl (k 0, 40, .inl v)) = wT k a R P L (up2 N i v) := by
  unfold wT
  rw [List.set_append_right _ _ (by simp)]
  simp only [List.length_cons, List.length_nil, Nat.zero_add, Nat.add_sub_cancel]
  rw [xRow_set 9 i _ _ h]
  exact congrArg _ (xUp_map (a := a) (f := N) (e := fun g => .inl (k 0, 40, .inl g)) 3)
theorem wG_row1 {k : Nat → ClassId} {a : Nat → Nat} {M N : Int32} {C Gr : Nat → Nat → Int32} {Pr : Nat → Nat → Int64} {Pa : Nat → Nat → Int32} {i : Nat} (h : i < 6) : (wG k a M N C Gr Pr Pa)[i + 5]? = some (a (i + 5), .inl (k 0, 6, .inl (C i))) := by
  unfold wG
  rw [List.getElem?_append_right (by simp), List.getElem?_append_left (by simp; omega)]
  simp [h]
theorem wG_row2 {k : Nat → ClassId} {a : Nat → Nat} {M N : Int32} {C Gr : Nat → Nat → Int32} {Pr : Nat → Nat → Int64} {Pa : Nat → Nat → Int32} {i : Nat} (h : i < 6) : (wG k a M N C Gr Pr Pa)[i + 11]? = some (a (i + 11), .inl (k 0, 6, .inl (Gr i))) := by
  unfold wG
  rw [List.getElem?_append_right (by simp), List.getElem?_append_right (by simp), List.getElem?_append_left (by simp; omega)]
  simp [h]
theorem wG_row3 {k : Nat → ClassId} {a : Nat → Nat} {M N : Int32} {C Gr : Nat → Nat → Int32} {Pr : Nat → Nat → Int64} {Pa : Nat → Nat → Int32} {i : Nat} (h : i < 6) : (wG k a M N C Gr Pr Pa)[i + 17]? = some (a (i + 17), .inl (k 1, 6, .inr (.inl (Pr i)))) := by
  unfold wG
  rw [List.getElem?_append_right (by simp), List.getElem?_append_right (by simp), List.getElem?_append_right (by simp), List.getElem?_append_left (by simp; omega)]
  simp [h]
theorem wG_row4 {k : Nat → ClassId} {a : Nat → Nat} {M N : Int32} {C Gr : Nat → Nat → Int32} {Pr : Nat → Nat → Int64} {Pa : Nat → Nat → Int32} {i : Nat} (h : i < 49) : (wG k a M N C Gr Pr Pa)[i + 23]? = some (a (i + 23), .inl (k 0, 6, .inl (Pa i))) := by
  unfold wG
  rw [List.getElem?_append_right (by simp), List.getElem?_append_right (by simp), List.getElem?_append_right (by simp), List.getElem?_append_right (by simp)]
  simp [h]
theorem wG_put1 {k : Nat → ClassId} {a : Nat → Nat} {M N : Int32} {C Gr : Nat → Nat → Int32} {Pr : Nat → Nat → Int64} {Pa : Nat → Nat → Int32} {i : Nat} {v : Nat → Int32} (h : i < 6) : (wG k a M N C Gr Pr Pa).set (i + 5) (a (i + 5), .inl (k 0, 6, .inl v)) = wG k a M N (up2 C i v) Gr Pr Pa := by
  unfold wG
  rw [List.set_append_right _ _ (by simp), List.set_append_left _ _ (by simp; omega)]
  simp only [List.length_cons, List.length_nil, Nat.zero_add, Nat.add_sub_cancel]
  rw [xRow_set 6 i _ _ h, xUp_map (a := a) (f := C) (e := fun g => .inl (k 0, 6, .inl g)) 5]
  rfl
theorem wG_put2 {k : Nat → ClassId} {a : Nat → Nat} {M N : Int32} {C Gr : Nat → Nat → Int32} {Pr : Nat → Nat → Int64} {Pa : Nat → Nat → Int32} {i : Nat} {v : Nat → Int32} (h : i < 6) : (wG k a M N C Gr Pr Pa).set (i + 11) (a (i + 11), .inl (k 0, 6, .inl v)) = wG k a M N C (up2 Gr i v) Pr Pa := by
  unfold wG
  rw [List.set_append_right _ _ (by simp), List.set_append_right _ _ (by simp), List.set_append_left _ _ (by simp; omega)]
  simp only [List.length_cons, List.length_nil, List.length_map, List.length_range, Nat.zero_add]
  rw [show i + 11 - (0 + 1 + 1 + 1 + 1 + 1) - 6 = i by omega, xRow_set 6 i _ _ h, xUp_map (a := a) (f := Gr) (e := fun g => .inl (k 0, 6, .inl g)) 11]
  rfl
theorem wG_put3 {k : Nat → ClassId} {a : Nat → Nat} {M N : Int32} {C Gr : Nat → Nat → Int32} {Pr : Nat → Nat → Int64} {Pa : Nat → Nat → Int32} {i : Nat} {v : Nat → Int64} (h : i < 6) : (wG k a M N C Gr Pr Pa).set (i + 17) (a (i + 17), .inl (k 1, 6, .inr (.inl v))) = wG k a M N C Gr (up2 Pr i v) Pa := by
  unfold wG
  rw [List.set_append_right _ _ (by simp), List.set_append_right _ _ (by simp), List.set_append_right _ _ (by simp), List.set_append_left _ _ (by simp; omega)]
  simp only [List.length_cons, List.length_nil, List.length_map, List.length_range, Nat.zero_add]
  rw [show i + 17 - (0 + 1 + 1 + 1 + 1 + 1) - 6 - 6 = i by omega, xRow_set 6 i _ _ h, xUp_map (a := a) (f := Pr) (e := fun g => .inl (k 1, 6, .inr (.inl g))) 17]
  rfl
theorem wG_put4 {k : Nat → ClassId} {a : Nat → Nat} {M N : Int32} {C Gr : Nat → Nat → Int32} {Pr : Nat → Nat → Int64} {Pa : Nat → Nat → Int32} {i : Nat} {v : Nat → Int32} (h : i < 49) : (wG k a M N C Gr Pr Pa).set (i + 23) (a (i + 23), .inl (k 0, 6, .inl v)) = wG k a M N C Gr Pr (up2 Pa i v) := by
  unfold wG
  rw [List.set_append_right _ _ (by simp), List.set_append_right _ _ (by simp), List.set_append_right _ _ (by simp), List.set_append_right _ _ (by simp)]
  simp only [List.length_cons, List.length_nil, List.length_map, List.length_range, Nat.zero_add]
  rw [show i + 23 - (0 + 1 + 1 + 1 + 1 + 1) - 6 - 6 - 6 = i by omega, xRow_set 49 i _ _ h, xUp_map (a := a) (f := Pa) (e := fun g => .inl (k 0, 6, .inl g)) 23]
  rfl
theorem xCut1 {w : va_W} {i : Nat} {x : Nat × va_E} (h : w[i]? = some x) : w.Perm ([x] ++ w.eraseIdx i) := by
  induction w generalizing i with
  | nil => simp at h
  | cons y w ih =>
    cases i with
    | zero =>
      simp at h
      subst h
      exact List.Perm.refl _
    | succ i =>
      simp only [List.getElem?_cons_succ] at h
      simp only [List.eraseIdx_cons_succ]
      exact ((ih h).cons y).trans (List.Perm.swap _ _ _)
theorem xJoin1 {w : va_W} {i : Nat} {x y : Nat × va_E} (h : w[i]? = some x) : ([y] ++ w.eraseIdx i).Perm (w.set i y) := by
  have hl : i < w.length := (List.getElem?_eq_some_iff.mp h).1
  have h1 : (w.set i y)[i]? = some y := List.getElem?_set_self hl
  have h2 := xCut1 h1
  rw [show (w.set i y).eraseIdx i = w.eraseIdx i by
    apply List.ext_getElem?
    intro j
    rw [List.getElem?_eraseIdx, List.getElem?_eraseIdx]
    by_cases hj : j < i
    · rw [if_pos hj, if_pos hj, List.getElem?_set_ne (by omega)]
    · rw [if_neg hj, if_neg hj, List.getElem?_set_ne (by omega)]] at h2
  exact h2.symm
theorem xSr_same {k : Nat → ClassId} {a : Nat → Nat} {I I2 : Nat → Nat → Int64} {Ln Ln2 Sz Sz2 : Nat → Int32} {i : Nat} (h1 : ∀ j, j ≠ i → I2 j = I j) (h2 : ∀ j, j ≠ i → Ln2 j = Ln j) (h3 : ∀ j, j ≠ i → Sz2 j = Sz j) : wSr k a I2 Ln2 Sz2 i = wSr k a I Ln Sz i := by
  unfold wSr
  apply congrArg List.flatten
  apply List.map_congr_left
  intro j hj
  have hne : j ≠ i := by
    intro e
    subst e
    exact (List.Nodup.not_mem_erase List.nodup_range) hj
  rw [h1 j hne, h2 j hne, h3 j hne]
theorem wSS_cut {k : Nat → ClassId} {a : Nat → Nat} {I : Nat → Nat → Int64} {Ln Sz : Nat → Int32} {i : Nat} (h : i < 4) : (wSS k a I Ln Sz).Perm (wS k (fun j => a (2 * i + j)) (I i) (Ln i) (Sz i) ++ wSr k a I Ln Sz i) := by
  have hp : (List.range 4).Perm (i :: (List.range 4).erase i) := List.perm_cons_erase (List.mem_range.mpr h)
  have h2 := hp.flatMap_right (fun s => wS k (fun j => a (2 * s + j)) (I s) (Ln s) (Sz s))
  rw [List.flatMap_cons] at h2
  exact h2
theorem wT_adr {k : Nat → ClassId} {a : Nat → Nat} {R P R2 P2 : Int32} {L L2 : Nat → Int32} {N N2 : Nat → Nat → Int32} : (wT k a R P L N).map Prod.fst = (wT k a R2 P2 L2 N2).map Prod.fst := rfl
theorem wG_adr {k : Nat → ClassId} {a : Nat → Nat} {M N M2 N2 : Int32} {C Gr C2 Gr2 : Nat → Nat → Int32} {Pr Pr2 : Nat → Nat → Int64} {Pa Pa2 : Nat → Nat → Int32} : (wG k a M N C Gr Pr Pa).map Prod.fst = (wG k a M2 N2 C2 Gr2 Pr2 Pa2).map Prod.fst := by
  unfold wG
  simp only [List.map_append, List.map_map, List.map_cons, List.map_nil, Function.comp_def]
theorem wW_adr {k : Nat → ClassId} {w : Nat} {ap aq : Nat → Nat} {R P R2 P2 S Q S2 Q2 : Int32} {L L2 U U2 : Nat → Int32} {N N2 V V2 : Nat → Nat → Int32} : (wW k w ap aq R P L N S Q U V).map Prod.fst = (wW k w ap aq R2 P2 L2 N2 S2 Q2 U2 V2).map Prod.fst := xAdr2 rfl (xAdr2 wT_adr wT_adr)
theorem wSS_adr {k : Nat → ClassId} {a : Nat → Nat} {I I2 : Nat → Nat → Int64} {Ln Sz Ln2 Sz2 : Nat → Int32} : (wSS k a I Ln Sz).map Prod.fst = (wSS k a I2 Ln2 Sz2).map Prod.fst := rfl
theorem wX_adr {k : Nat → ClassId} {b ag as ap aq aa ab : Nat → Nat} {M N M2 N2 : Int32} {C Gr C2 Gr2 : Nat → Nat → Int32} {Pr Pr2 : Nat → Nat → Int64} {Pa Pa2 : Nat → Nat → Int32} {I I2 : Nat → Nat → Int64} {Ln Sz Ln2 Sz2 dr dr2 : Nat → Int32} {pR pP pR2 pP2 : Int32} {pL pL2 : Nat → Int32} {pN pN2 : Nat → Nat → Int32} {qR qP qR2 qP2 : Int32} {qL qL2 : Nat → Int32} {qN qN2 : Nat → Nat → Int32} {aR aP aR2 aP2 : Int32} {aL aL2 : Nat → Int32} {aN aN2 : Nat → Nat → Int32} {bR bP bR2 bP2 : Int32} {bL bL2 : Nat → Int32} {bN bN2 : Nat → Nat → Int32} :
    (wX k b ag as ap aq aa ab M N C Gr Pr Pa I Ln Sz dr pR pP pL pN qR qP qL qN aR aP aL aN bR bP bL bN).map Prod.fst = (wX k b ag as ap aq aa ab M2 N2 C2 Gr2 Pr2 Pa2 I2 Ln2 Sz2 dr2 pR2 pP2 pL2 pN2 qR2 qP2 qL2 qN2 aR2 aP2 aL2 aN2 bR2 bP2 bL2 bN2).map Prod.fst :=
  xAdr2 rfl (xAdr2 rfl (xAdr2 rfl (xAdr2 rfl (xAdr2 wG_adr (xAdr2 wSS_adr (xAdr2 wT_adr (xAdr2 wT_adr (xAdr2 wT_adr wT_adr))))))))
theorem wSS_put {k : Nat → ClassId} {a : Nat → Nat} {I I2 : Nat → Nat → Int64} {Ln Sz Ln2 Sz2 : Nat → Int32} {i : Nat} {Iv : Nat → Int64} {Lv Sv : Int32} (h : i < 4) (e1 : I2 i = Iv) (h1 : ∀ j, j ≠ i → I2 j = I j) (e2 : Ln2 i = Lv) (h2 : ∀ j, j ≠ i → Ln2 j = Ln j) (e3 : Sz2 i = Sv) (h3 : ∀ j, j ≠ i → Sz2 j = Sz j) : (wS k (fun j => a (2 * i + j)) Iv Lv Sv ++ wSr k a I Ln Sz i).Perm (wSS k a I2 Ln2 Sz2) := by
  have h9 := wSS_cut (k := k) (a := a) (I := I2) (Ln := Ln2) (Sz := Sz2) h
  rw [xSr_same h1 h2 h3, e1, e2, e3] at h9
  exact h9.symm
