/-! served, line -/
def cntS (F : Nat → Int32) (t : Int32) : Nat → Int32
  | 0 => 0
  | j + 1 => cntS F t j + (if t < F j then 0 else 1)
theorem cntS_s (F : Nat → Int32) (t : Int32) (j : Nat) : cntS F t (j + 1) = cntS F t j + (if t < F j then 0 else 1) := rfl
theorem cntS_congr {F G : Nat → Int32} {t : Int32} : ∀ n, (∀ j, j < n → F j = G j) → cntS F t n = cntS G t n
  | 0, _ => rfl
  | n + 1, h => by rw [cntS_s, cntS_s, cntS_congr n (fun j hj => h j (by omega)), h n (by omega)]
theorem i0add (a : Int32) : a + 0 = a := Int32.add_zero a
theorem st_served {M N : Int32} {C Pa : Nat → Nat → Int32} {mm nn : Int32} {we : Nat → Int32} (h : IG M N C Pa mm nn we) (Gr : Nat → Nat → Int32) (be : Nat → Int32) (x1 x2 : Int32) {K : (Nat → Nat → Int32) → (Nat → Int32) → Prop} (hK : ∀ Gr' be', K Gr' be') :
    p_X4_served M N C Gr x1 x2 (fun r Gr' => p_X5_served mm nn we be x1 x2 (fun r' be' => (r = r' → K Gr' be') ∧ (¬ r = r' → False))) := by
  obtain ⟨m, n, hm, hn, rfl, rfl, rfl, rfl, hw, hb, hPa⟩ := h
  unfold p_X4_served p_X5_served
  have h00 : (0 : Int32) ≤ 0 ∧ 0 ≤ nI n - 1 := ⟨by decide, by rw [nI_m1 hn.1]; exact nI_pos' (by omega)⟩
  refine x_hasPlace (fun c => z1 ⟨fun c2 => ?_, fun c2 => m_inT (a := 0) c.1 (z1 ⟨fun q => absurd q c2, fun _ => fin_eq rfl (hK _ _)⟩)⟩) (fun c => z0 (m_inF (a := 0) (fun q => c ⟨q, h00⟩) (z0 (fin_eq rfl (hK _ _)))))
  obtain ⟨i, j, hi, hj, rfl, e0⟩ := isPl_of hm hn c
  unfold p_X0_countServed
  rw [nI_m1 hn.1]
  refine x_heavy (a := 0) (b := 0) (by omega) (by omega) (by omega) (by omega) (fun G' hG => ?_)
  refine pk_loop (fun u j x3 => p_X0_countServed_19 (nI n) C (nI i) x2 _ u G' x3 (nI j)) (fun j x3 => x3 = cntS (gF C 0 0 i) x2 j) n 0 0 (by omega) rfl (fun u x3 hx => ?_) (fun u j x3 hj hx ih => ?_)
  · show p_X0_countServed_19 _ _ _ _ _ _ _ _ _
    unfold p_X0_countServed_19
    refine pk_le n n (fun _ => ?_) (fun q => by omega)
    refine m_inT (a := 0) c.1 (z1 ⟨fun _ => ?_, fun q => absurd c2 q⟩)
    refine m_heavy (a := 0) (b := 0) hm.2 hn.2 (by omega) (by omega) hw (fun be' hbe => ?_)
    refine pk_loop (fun u j x3 => p_X5_served_33 (nI m) (nI n) we (nI i) x2 _ u be' x3 (nI j)) (fun j x3 => x3 = cntS (gF C 0 0 i) x2 j) n 0 0 (by omega) rfl (fun u x4 hx4 => ?_) (fun u j x4 hj hx4 ih => ?_)
    · show p_X5_served_33 _ _ _ _ _ _ _ _ _ _
      unfold p_X5_served_33
      exact pk_le n n (fun _ => fin_eq (by rw [hx, hx4]) (hK _ _)) (fun q => by omega)
    · show p_X5_served_33 _ _ _ _ _ _ _ _ _ _
      unfold p_X5_served_33 p_X5_served_64
      rw [n6, nI_1, nI_clamp (by omega)]
      refine pk_le n j (fun q => by omega) (fun _ => ⟨pk_in (6 * i + j) 36 (by omega), fun q => ih _ ?_, fun q => ih _ ?_⟩)
      · rw [hbe i j (by omega) hi (by omega) hj] at q
        rw [hx4]; rw [cntS_s, if_pos q]
      · rw [hbe i j (by omega) hi (by omega) hj] at q
        rw [hx4]; rw [cntS_s, if_neg q]
  · show p_X0_countServed_19 _ _ _ _ _ _ _ _ _
    unfold p_X0_countServed_19 p_X0_countServed_44
    rw [nI_1, nI_clamp (by omega), nI_clamp (by omega)]
    refine pk_le n j (fun q => by omega) (fun _ => ⟨pk_in i 6 (by omega), pk_in j 6 (by omega), fun q => ih _ ?_, fun q => ih _ ?_⟩)
    · rw [hG i j (by omega) (by omega) (by omega) (by omega)] at q
      rw [hx]; rw [cntS_s, if_pos q, i0add]
    · rw [hG i j (by omega) (by omega) (by omega) (by omega)] at q
      rw [hx]; rw [cntS_s, if_neg q]
def lnW (F : Nat → Nat → Int32) (m n : Nat) : Nat → Nat × Nat
  | 0 => (0, 0)
  | k + 1 => if (lnW F m n k).1 + 1 < m ∧ ((lnW F m n k).2 + 1 = n ∨ F ((lnW F m n k).1 + 1) (lnW F m n k).2 < F (lnW F m n k).1 ((lnW F m n k).2 + 1)) then ((lnW F m n k).1 + 1, (lnW F m n k).2) else ((lnW F m n k).1, (lnW F m n k).2 + 1)
theorem lnW_in {F : Nat → Nat → Int32} {m n : Nat} (hm : 1 ≤ m) (hn : 1 ≤ n) : ∀ k, k ≤ m + n - 2 → (lnW F m n k).1 < m ∧ (lnW F m n k).2 < n ∧ (lnW F m n k).1 + (lnW F m n k).2 = k
  | 0, _ => ⟨hm, hn, rfl⟩
  | k + 1, h => by
    obtain ⟨h1, h2, h3⟩ := lnW_in (F := F) hm hn k (by omega)
    unfold lnW
    by_cases c : (lnW F m n k).1 + 1 < m ∧ ((lnW F m n k).2 + 1 = n ∨ F ((lnW F m n k).1 + 1) (lnW F m n k).2 < F (lnW F m n k).1 ((lnW F m n k).2 + 1))
    · rw [if_pos c]; exact ⟨c.1, h2, by show _ + 1 + _ = _; omega⟩
    · rw [if_neg c]
      refine ⟨h1, ?_, by show _ + (_ + 1) = _; omega⟩
      show _ + 1 < n
      have : ¬ ((lnW F m n k).1 + 1 < m ∧ (lnW F m n k).2 + 1 = n) := fun q => c ⟨q.1, Or.inl q.2⟩
      omega
theorem isPl_nat {m n i j : Nat} (hm : 1 ≤ m ∧ m ≤ 6) (hn : 1 ≤ n ∧ n ≤ 6) (hi : i < 2 ^ 31) (hj : j < 2 ^ 31) : isPl m n (nI i) (nI j) ↔ i < m ∧ j < n := by
  unfold isPl
  rw [nI_m1 hm.1, nI_m1 hn.1, nI_leI hi (by omega), nI_leI hj (by omega)]
  constructor
  · intro h; omega
  · intro h; exact ⟨⟨nI_pos' hi, by omega⟩, nI_pos' hj, by omega⟩
theorem x_down {G : Nat → Nat → Int32} {m n i j : Nat} (hm : 1 ≤ m ∧ m ≤ 6) (hn : 1 ≤ n ∧ n ≤ 6) (hi : i < m) (hj : j < n) {post : Int32 → Prop} (h1 : (i + 1 < m ∧ (j + 1 = n ∨ G (i + 1) j < G i (j + 1))) → post 1) (h0 : ¬ (i + 1 < m ∧ (j + 1 = n ∨ G (i + 1) j < G i (j + 1))) → post 0) : p_X0_lineGoesDown (nI m) (nI n) G (nI i) (nI j) post := by
  unfold p_X0_lineGoesDown
  rw [nI_1, nI_1]
  refine x_hasPlace (fun c => z1 (x_hasPlace (fun c2 => z1 ?_) (fun c2 => z0 ?_))) (fun c => z0 ?_)
  · rw [isPl_nat hm hn (by omega) (by omega)] at c c2
    refine ⟨pk_in (i + 1) 6 (by omega), pk_in j 6 (by omega), pk_in i 6 (by omega), pk_in (j + 1) 6 (by omega), ?_⟩
    rw [nI_clamp (by omega), nI_clamp (by omega), nI_clamp (by omega), nI_clamp (by omega)]
    refine ⟨fun q => h0 (fun q2 => ?_), fun q => h1 ⟨c.1, Or.inr ?_⟩⟩
    · rcases q2.2 with q3 | q3
      · omega
      · exact (le_not_lt.mp q) q3
    · exact Decidable.byContradiction fun q3 => q (le_not_lt.mpr q3)
  · rw [isPl_nat hm hn (by omega) (by omega)] at c c2
    exact h1 ⟨c.1, Or.inl (by omega)⟩
  · rw [isPl_nat hm hn (by omega) (by omega)] at c
    exact h0 (fun q => c ⟨q.1, hj⟩)
theorem st_line {M N : Int32} {C Pa : Nat → Nat → Int32} {mm nn : Int32} {we : Nat → Int32} (h : IG M N C Pa mm nn we) (Gr : Nat → Nat → Int32) (be : Nat → Int32) (x1 : Int32) {K : (Nat → Nat → Int32) → (Nat → Int32) → Prop} (hK : ∀ Gr' be', K Gr' be') :
    p_X4_line M N C Gr x1 (fun r Gr' => p_X5_line mm nn we be x1 (fun r' be' => (r = r' → K Gr' be') ∧ (¬ r = r' → False))) := by
  obtain ⟨m, n, hm, hn, rfl, rfl, rfl, rfl, hw, hb, hPa⟩ := h
  unfold p_X4_line p_X5_line p_X0_lastStep
  refine x_within (fun c => z1 ?_) (fun c => z0 (m_inF (a := 0) c (z0 (fin_eq rfl (hK _ _)))))
  obtain ⟨s, hs, rfl⟩ := n_of_le (show nI m + nI n - 2 = nI (m + n - 2) by rw [nI_add]; exact pk_sub (b := 2) (by omega)) (by omega) c.1 c.2
  unfold p_X0_placeOnLine
  rw [nI_m1 hm.1, nI_m1 hn.1]
  refine x_heavy (a := 0) (b := 0) (by omega) (by omega) (by omega) (by omega) (fun G' hG => ?_)
  refine pk_loop (fun u k (p : Int32 × Int32) => p_X0_placeOnLine_26 (nI m) (nI n) C (nI s) _ u G' p.1 p.2 (nI k)) (fun k p => p = (nI (lnW (gF C 0 0) m n k).1, nI (lnW (gF C 0 0) m n k).2)) s 0 (0, 0) (by omega) rfl (fun u p hp => ?_) (fun u k p hk hp ih => ?_)
  · show p_X0_placeOnLine_26 _ _ _ _ _ _ _ _ _ _
    unfold p_X0_placeOnLine_26
    refine pk_le s s (fun _ => ?_) (fun q => by omega)
    refine m_inT (a := 0) c (z1 ?_)
    refine m_heavy (a := 0) (b := 0) hm.2 hn.2 (by omega) (by omega) hw (fun be' hbe => ?_)
    refine pk_loop (fun u k (p : Int32 × Int32) => p_X5_line_36 (nI m) (nI n) we (nI s) _ u be' p.1 p.2 (nI k)) (fun k p => p = (nI (lnW (gF C 0 0) m n k).1, nI (lnW (gF C 0 0) m n k).2)) s 0 (0, 0) (by omega) rfl (fun u p2 hp2 => ?_) (fun u k p2 hk hp2 ih => ?_)
    · show p_X5_line_36 _ _ _ _ _ _ _ _ _ _
      unfold p_X5_line_36
      exact pk_le s s (fun _ => fin_eq (by rw [hp, hp2]) (hK _ _)) (fun q => by omega)
    · show p_X5_line_36 _ _ _ _ _ _ _ _ _ _
      unfold p_X5_line_36
      subst hp2
      obtain ⟨h1, h2, h3⟩ := lnW_in (F := gF C 0 0) hm.1 hn.1 k (by omega)
      have hdn : ((lnW (gF C 0 0) m n k).1 + 1 < m ∧ ((lnW (gF C 0 0) m n k).2 + 1 = n ∨ gF C 0 0 ((lnW (gF C 0 0) m n k).1 + 1) (lnW (gF C 0 0) m n k).2 < gF C 0 0 (lnW (gF C 0 0) m n k).1 ((lnW (gF C 0 0) m n k).2 + 1))) → lnW (gF C 0 0) m n (k + 1) = ((lnW (gF C 0 0) m n k).1 + 1, (lnW (gF C 0 0) m n k).2) := fun q => if_pos q
      have hrt : ¬ ((lnW (gF C 0 0) m n k).1 + 1 < m ∧ ((lnW (gF C 0 0) m n k).2 + 1 = n ∨ gF C 0 0 ((lnW (gF C 0 0) m n k).1 + 1) (lnW (gF C 0 0) m n k).2 < gF C 0 0 (lnW (gF C 0 0) m n k).1 ((lnW (gF C 0 0) m n k).2 + 1))) → lnW (gF C 0 0) m n (k + 1) = ((lnW (gF C 0 0) m n k).1, (lnW (gF C 0 0) m n k).2 + 1) := fun q => if_neg q
      revert ih hdn hrt
      generalize lnW (gF C 0 0) m n (k + 1) = p'
      revert h1 h2 h3
      generalize lnW (gF C 0 0) m n k = p
      obtain ⟨i, j⟩ := p
      intro h1 h2 h3 ih hdn hrt
      have h1 : i < m := h1
      have h2 : j < n := h2
      have h3 : i + j = k := h3
      unfold p_X5_line_91 p_X5_line_95 p_X5_line_96 p_X5_line_109 p_X5_line_122
      show (_ → _) ∧ (_ → _)
      rw [nI_m1 hm.1, nI_m1 hn.1]
      have down : (i + 1 < m ∧ (j + 1 = n ∨ gF C 0 0 (i + 1) j < gF C 0 0 i (j + 1))) → p_X5_line_36 (nI m) (nI n) we (nI s) (fun r' be' => (10 * p.1 + p.2 = r' → K G' be') ∧ (¬ 10 * p.1 + p.2 = r' → False)) u be' (nI i + 1) (nI j + 0) (nI k + 1) := by
        intro q
        rw [nI_1, nI_1, i0add]
        exact ih (nI (i + 1), nI j) (by rw [hdn q])
      have right : ¬ (i + 1 < m ∧ (j + 1 = n ∨ gF C 0 0 (i + 1) j < gF C 0 0 i (j + 1))) → p_X5_line_36 (nI m) (nI n) we (nI s) (fun r' be' => (10 * p.1 + p.2 = r' → K G' be') ∧ (¬ 10 * p.1 + p.2 = r' → False)) u be' (nI i + 0) (nI j + 1) (nI k + 1) := by
        intro q
        rw [nI_1, nI_1, i0add]
        exact ih (nI i, nI (j + 1)) (by rw [hrt q])
      refine pk_le s k (fun q => by omega) (fun _ => pk_eq j (n - 1) (fun q => z1 (z1 (down ⟨by omega, Or.inl (by omega)⟩))) (fun q => pk_le (m - 1) i (fun q2 => z0 (z0 (right (fun q3 => by omega)))) (fun q2 => ?_)))
      have w1 : 6 * (nI i + 1) + nI j = nI (6 * (i + 1) + j) := by rw [nI_1, n6]
      have w2 : 6 * nI i + nI j + 1 = nI (6 * i + (j + 1)) := by rw [n6, nI_1]; rfl
      have v1 : be' (6 * (nI i + 1) + nI j).toNatClampNeg = gF C 0 0 (i + 1) j := by rw [w1, nI_clamp (by omega)]; exact hbe (i + 1) j (by omega) (by omega) (by omega) (by omega)
      have v2 : be' (6 * nI i + nI j + 1).toNatClampNeg = gF C 0 0 i (j + 1) := by rw [w2, nI_clamp (by omega)]; exact hbe i (j + 1) (by omega) (by omega) (by omega) (by omega)
      refine ⟨pk_in (6 * (i + 1) + j) 36 (by omega) w1, pk_in (6 * i + (j + 1)) 36 (by omega) w2, fun q3 => z0 (z0 (right (fun q4 => ?_))), fun q3 => z1 (z1 (down ⟨by omega, Or.inr (Decidable.byContradiction fun q5 => q3 ?_)⟩))⟩
      · rw [v1, v2] at q3
        rcases q4.2 with q5 | q5
        · omega
        · exact (le_not_lt.mp q3) q5
      · rw [v1, v2]; exact le_not_lt.mpr q5
  · show p_X0_placeOnLine_26 _ _ _ _ _ _ _ _ _ _
    unfold p_X0_placeOnLine_26 p_X0_placeOnLine_50
    subst hp
    obtain ⟨h1, h2, h3⟩ := lnW_in (F := gF C 0 0) hm.1 hn.1 k (by omega)
    refine pk_le s k (fun q => by omega) (fun _ => x_down hm hn h1 h2 (fun q => z1 ?_) (fun q => z0 ?_))
    · rw [nI_1, nI_1]
      have hc : (lnW (gF C 0 0) m n k).1 + 1 < m ∧ ((lnW (gF C 0 0) m n k).2 + 1 = n ∨ gF C 0 0 ((lnW (gF C 0 0) m n k).1 + 1) (lnW (gF C 0 0) m n k).2 < gF C 0 0 (lnW (gF C 0 0) m n k).1 ((lnW (gF C 0 0) m n k).2 + 1)) := by
        refine ⟨q.1, ?_⟩
        rcases q.2 with q2 | q2
        · exact Or.inl q2
        · by_cases q4 : (lnW (gF C 0 0) m n k).2 + 1 = n
          · exact Or.inl q4
          · have q5 := q.1
            rw [hG _ _ (by omega) (by omega) (by omega) (by omega), hG _ _ (by omega) (by omega) (by omega) (by omega)] at q2
            exact Or.inr q2
      have e : lnW (gF C 0 0) m n (k + 1) = ((lnW (gF C 0 0) m n k).1 + 1, (lnW (gF C 0 0) m n k).2) := if_pos hc
      exact ih (nI ((lnW (gF C 0 0) m n k).1 + 1), nI (lnW (gF C 0 0) m n k).2) (by rw [e])
    · rw [nI_1, nI_1]
      have hc : ¬ ((lnW (gF C 0 0) m n k).1 + 1 < m ∧ ((lnW (gF C 0 0) m n k).2 + 1 = n ∨ gF C 0 0 ((lnW (gF C 0 0) m n k).1 + 1) (lnW (gF C 0 0) m n k).2 < gF C 0 0 (lnW (gF C 0 0) m n k).1 ((lnW (gF C 0 0) m n k).2 + 1))) := by
        refine fun q2 => q ⟨q2.1, ?_⟩
        rcases q2.2 with q3 | q3
        · exact Or.inl q3
        · by_cases q4 : (lnW (gF C 0 0) m n k).2 + 1 = n
          · exact Or.inl q4
          · refine Or.inr ?_
            have q5 := q2.1
            rw [hG _ _ (by omega) (by omega) (by omega) (by omega), hG _ _ (by omega) (by omega) (by omega) (by omega)]
            exact q3
      have e : lnW (gF C 0 0) m n (k + 1) = ((lnW (gF C 0 0) m n k).1, (lnW (gF C 0 0) m n k).2 + 1) := if_neg hc
      exact ih (nI (lnW (gF C 0 0) m n k).1, nI ((lnW (gF C 0 0) m n k).2 + 1)) (by rw [e])
