/-! sums of products -/
def gQ (C : Nat → Nat → Int32) : Nat → Nat → Nat → Int64
  | 0, _, _ => 0
  | u + 1, i, j => ((if i = 0 ∧ j = 0 then 1 else 0) + (if 0 < i then gQ C u (i - 1) j else 0) + (if 0 < j then gQ C u i (j - 1) else 0)) * (C i j).toInt64
def gU (C : Nat → Nat → Int32) (i j : Nat) : Int64 := gQ C (i + j + 1) i j
theorem gU_eq (C : Nat → Nat → Int32) (i j : Nat) : gU C i j = ((if i = 0 ∧ j = 0 then 1 else 0) + (if 0 < i then gU C (i - 1) j else 0) + (if 0 < j then gU C i (j - 1) else 0)) * (C i j).toInt64 := by
  have e1 : (if 0 < i then gQ C (i + j) (i - 1) j else 0) = (if 0 < i then gU C (i - 1) j else 0) := by
    by_cases c : 0 < i
    · rw [if_pos c, if_pos c]; unfold gU; rw [show i - 1 + j + 1 = i + j by omega]
    · rw [if_neg c, if_neg c]
  have e2 : (if 0 < j then gQ C (i + j) i (j - 1) else 0) = (if 0 < j then gU C i (j - 1) else 0) := by
    by_cases c : 0 < j
    · rw [if_pos c, if_pos c]; unfold gU; rw [show i + (j - 1) + 1 = i + j by omega]
    · rw [if_neg c, if_neg c]
  rw [← e1, ← e2]
  rfl
theorem vL_at {f : Nat → Int64} {k j : Nat} {x : Int64} : vp_updL f k x j = if j = k then x else f j := rfl
theorem up2L_at {f : Nat → Nat → Int64} {i j a b : Nat} {v : Int64} : up2 f i (vp_updL (f i) j v) a b = if a = i ∧ b = j then v else f a b := by
  by_cases h : a = i
  · subst h
    rw [up2_s]
    by_cases h2 : b = j
    · subst h2; rw [pk_uLs]; simp
    · rw [pk_uLn h2]; simp [h2]
  · rw [up2_n h]; simp [h]
theorem x_before {C : Nat → Nat → Int32} {Pr : Nat → Nat → Int64} {i j : Nat} (hi : i < 6) (hj : j < 6) (hu : 0 < i → Pr (i - 1) j = gU C (i - 1) j) (hl : 0 < j → Pr i (j - 1) = gU C i (j - 1)) {post : Int64 → Prop} (h : post ((if i = 0 ∧ j = 0 then 1 else 0) + (if 0 < i then gU C (i - 1) j else 0) + (if 0 < j then gU C i (j - 1) else 0))) : p_X0_productsBefore Pr (nI i) (nI j) post := by
  have h10 : ¬ (i = 0 ∧ j = 0) → p_X0_productsBefore_10 Pr (nI i) (nI j) post := by
    intro c
    rw [if_neg c, Int64.zero_add] at h
    have h28 : ∀ s, s = (if 0 < i then gU C (i - 1) j else 0) → p_X0_productsBefore_28 Pr (nI i) (nI j) post s := by
      intro s hs
      unfold p_X0_productsBefore_28 p_X0_productsBefore_47
      subst hs
      refine pk_le j 0 (fun q => ?_) (fun q => ⟨pk_in i 6 hi, pk_in (j - 1) 6 (by omega) (nI_m1 (by omega)), ?_⟩)
      · rw [if_neg (show ¬ 0 < j by omega)] at h; exact h
      · rw [nI_m1 (by omega), nI_clamp (by omega), nI_clamp (by omega), hl q]
        rw [if_pos q] at h; exact h
    unfold p_X0_productsBefore_10
    refine pk_le i 0 (fun q => h28 _ (by rw [if_neg (by omega)])) (fun q => ⟨pk_in (i - 1) 6 (by omega) (nI_m1 (by omega)), pk_in j 6 hj, h28 _ ?_⟩)
    rw [nI_m1 (by omega), nI_clamp (by omega), nI_clamp (by omega), hu q, if_pos q]
  unfold p_X0_productsBefore
  refine pk_eq i 0 (fun q => pk_eq j 0 (fun q2 => ?_) (fun q2 => h10 (fun q3 => q2 q3.2))) (fun q => h10 (fun q3 => q q3.1))
  subst q q2
  exact h
theorem x_sums {C : Nat → Nat → Int32} {Pr : Nat → Nat → Int64} {c d : Nat} (hc : c < 6) (hd : d < 6) {post : Int64 → (Nat → Nat → Int64) → Prop} (h : ∀ Pr', post (gU C c d) Pr') : p_X0_productSum C Pr (nI c) (nI d) post := by
  unfold p_X0_productSum
  refine pk_loop (fun u i P => p_X0_productSum_2 C (nI c) (nI d) post u P (nI i)) (fun i P => ∀ p q, p < i → q ≤ d → P p q = gU C p q) (c + 1) 0 Pr (by omega) (fun p q h1 => by omega) (fun u P hP => ?_) (fun u i P hi hP ih => ?_)
  · show p_X0_productSum_2 _ _ _ _ _ _ _
    unfold p_X0_productSum_2
    refine pk_lt c (c + 1) (fun _ => ⟨pk_in c 6 hc, pk_in d 6 hd, ?_⟩) (fun q => by omega)
    rw [nI_clamp (by omega), nI_clamp (by omega), hP c d (by omega) (by omega)]
    exact h P
  · show p_X0_productSum_2 _ _ _ _ _ _ _
    unfold p_X0_productSum_2
    refine pk_lt c i (fun q => by omega) (fun _ => ?_)
    refine pk_loop (fun u j P => p_X0_productSum_10 C (nI c) (nI d) post _ u P (nI i) (nI j)) (fun j P => ∀ p q, q ≤ d → (p < i ∨ (p = i ∧ q < j)) → P p q = gU C p q) (d + 1) 0 P (by omega) (fun p q h1 h2 => hP p q (by omega) h1) (fun u' P' hP' => ?_) (fun u' j P' hj hP' ih2 => ?_)
    · show p_X0_productSum_10 _ _ _ _ _ _ _ _ _
      unfold p_X0_productSum_10
      refine pk_lt d (d + 1) (fun _ => ?_) (fun q => by omega)
      rw [nI_1]
      exact ih P' (fun p q h1 h2 => hP' p q h2 (by omega))
    · show p_X0_productSum_10 _ _ _ _ _ _ _ _ _
      unfold p_X0_productSum_10
      have hi6 : vp_in (nI i) 6 := pk_in i 6 (by omega)
      have hj6 : vp_in (nI j) 6 := pk_in j 6 (by omega)
      refine pk_lt d j (fun q => by omega) (fun _ => ⟨hi6, hi6, hj6, x_before (C := C) (by omega) (by omega) (fun q => hP' _ _ (by omega) (by omega)) (fun q => hP' _ _ (by omega) (by omega)) ⟨hj6, ?_⟩⟩)
      rw [nI_1, nI_clamp (by omega), nI_clamp (by omega)]
      refine ih2 _ (fun p q h1 h2 => ?_)
      rw [up2L_at]
      by_cases e : p = i ∧ q = j
      · rw [if_pos e, e.1, e.2, Int64.mul_comm, ← gU_eq]
      · rw [if_neg e]; exact hP' p q h1 (by omega)
theorem m_sums1 {C : Nat → Nat → Int32} {we : Nat → Int32} {su : Nat → Int64} {mm nn x1 x2 : Int32} {i j : Nat} {post : Int64 → (Nat → Int64) → Prop} {k15 : (Nat → Int64) → Int32 → Prop} {k23 : (Nat → Int64) → Int32 → Int32 → Prop} (hw : ∀ i j, i < 6 → j < 6 → we (6 * i + j) = C i j) (hi : i < 6) (hj : j < 6) (hu : 0 < i → su (6 * (i - 1) + j) = gU C (i - 1) j) (hl : 0 < j → su (6 * i + (j - 1)) = gU C i (j - 1)) (h : k23 (vp_updL su (6 * i + j) (gU C i j)) (nI i) (nI (j + 1))) {s : Int64} (hs : s = if i = 0 ∧ j = 0 then 1 else 0) : p_X5_sums_43 mm nn we x1 x2 post k15 k23 su (nI i) (nI j) s := by
  have hij : vp_in (nI (6 * i + j)) 36 := pk_in (6 * i + j) 36 (by omega)
  have h97 : ∀ l t, l = (if 0 < j then gU C i (j - 1) else 0) → t = s + (if 0 < i then gU C (i - 1) j else 0) → p_X5_sums_97 mm nn we x1 x2 post k15 k23 su (nI i) (nI j) l t := by
    intro l t e1 e2
    unfold p_X5_sums_97
    rw [n6, nI_1, nI_clamp (show 6 * i + j < 2 ^ 31 by omega)]
    refine ⟨hij, hij, ?_⟩
    rw [e1, e2, hs, hw i j hi hj, ← gU_eq]
    exact h
  have h69 : ∀ t, t = (if 0 < i then gU C (i - 1) j else 0) → p_X5_sums_69 mm nn we x1 x2 post k15 k23 su (nI i) (nI j) t s := by
    intro t e
    unfold p_X5_sums_69
    rw [n6]
    refine pk_le j 0 (fun q => h97 _ _ (by rw [if_neg (by omega)]) (by rw [e])) (fun q => ⟨pk_in (6 * i + j - 1) 36 (by omega) (nI_m1 (by omega)), h97 _ _ ?_ (by rw [e])⟩)
    rw [nI_m1 (by omega), nI_clamp (by omega), if_pos q, show 6 * i + j - 1 = 6 * i + (j - 1) by omega]; exact hl q
  unfold p_X5_sums_43
  refine pk_le i 0 (fun q => h69 _ (by rw [if_neg (by omega)])) (fun q => ?_)
  rw [nI_m1 (by omega), n6]
  refine ⟨pk_in (6 * (i - 1) + j) 36 (by omega), h69 _ ?_⟩
  rw [nI_clamp (by omega), if_pos q]; exact hu q
theorem st_sums {M N : Int32} {C Pa : Nat → Nat → Int32} {mm nn : Int32} {we : Nat → Int32} (h : IG M N C Pa mm nn we) (Pr : Nat → Nat → Int64) (su : Nat → Int64) (x1 x2 : Int32) {K : (Nat → Nat → Int64) → (Nat → Int64) → Prop} (hK : ∀ Pr' su', K Pr' su') :
    p_X4_sums M N C Pr x1 x2 (fun r Pr' => p_X5_sums mm nn we su x1 x2 (fun r' su' => (lg_cmp r r' = 0 → K Pr' su') ∧ (¬ lg_cmp r r' = 0 → False))) := by
  obtain ⟨m, n, hm, hn, rfl, rfl, rfl, rfl, hw, hb, hPa⟩ := h
  unfold p_X4_sums p_X5_sums
  refine x_hasPlace (fun c => z1 ?_) (fun c => z0 (m_isPlace (fun q => absurd q c) (fun _ => z0 (fin_cmp rfl (hK _ _)))))
  obtain ⟨c1, d, hc, hd, rfl, rfl⟩ := isPl_of hm hn c
  refine x_sums (by omega) (by omega) (fun Pr' => m_isPlace (fun _ => z1 ?_) (fun q => absurd c q))
  refine pk_loop (fun u i P => p_X5_sums_15 (nI m) (nI n) we (nI c1) (nI d) _ u P (nI i)) (fun i P => ∀ p q, p < i → q ≤ d → P (6 * p + q) = gU C p q) (c1 + 1) 0 su (by omega) (fun p q h1 => by omega) (fun u P hP => ?_) (fun u i P hi hP ih => ?_)
  · show p_X5_sums_15 _ _ _ _ _ _ _ _ _
    unfold p_X5_sums_15
    rw [n6, nI_clamp (by omega)]
    exact pk_lt c1 (c1 + 1) (fun _ => ⟨pk_in (6 * c1 + d) 36 (by omega), fin_cmp (hP c1 d (by omega) (by omega)).symm (hK _ _)⟩) (fun q => by omega)
  · show p_X5_sums_15 _ _ _ _ _ _ _ _ _
    unfold p_X5_sums_15
    refine pk_lt c1 i (fun q => by omega) (fun _ => ?_)
    refine pk_loop (fun u j P => p_X5_sums_23 (nI m) (nI n) we (nI c1) (nI d) _ _ u P (nI i) (nI j)) (fun j P => ∀ p q, q ≤ d → (p < i ∨ (p = i ∧ q < j)) → P (6 * p + q) = gU C p q) (d + 1) 0 P (by omega) (fun p q h1 h2 => hP p q (by omega) h1) (fun u' P' hP' => ?_) (fun u' j P' hj hP' ih2 => ?_)
    · show p_X5_sums_23 _ _ _ _ _ _ _ _ _ _ _
      unfold p_X5_sums_23
      refine pk_lt d (d + 1) (fun _ => ?_) (fun q => by omega)
      rw [nI_1]
      exact ih P' (fun p q h1 h2 => hP' p q h2 (by omega))
    · show p_X5_sums_23 _ _ _ _ _ _ _ _ _ _ _
      unfold p_X5_sums_23 p_X5_sums_42
      refine pk_lt d j (fun q => by omega) (fun _ => ?_)
      have nxt := ih2 (vp_updL P' (6 * i + j) (gU C i j)) (fun p q h1 h2 => by
        rw [vL_at]
        by_cases e : p = i ∧ q = j
        · rw [if_pos (by omega), e.1, e.2]
        · rw [if_neg (by omega)]; exact hP' p q h1 (by omega))
      have hu : 0 < i → P' (6 * (i - 1) + j) = gU C (i - 1) j := fun q => hP' _ _ (by omega) (by omega)
      have hl : 0 < j → P' (6 * i + (j - 1)) = gU C i (j - 1) := fun q => hP' _ _ (by omega) (by omega)
      exact pk_eq i 0 (fun q => pk_eq j 0 (fun q2 => m_sums1 hw (by omega) (by omega) hu hl nxt (by rw [if_pos ⟨q, q2⟩])) (fun q2 => m_sums1 hw (by omega) (by omega) hu hl nxt (by rw [if_neg (fun q3 => q2 q3.2)]))) (fun q => m_sums1 hw (by omega) (by omega) hu hl nxt (by rw [if_neg (fun q3 => q q3.1)]))
