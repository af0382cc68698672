/-! shapes: shape, ways -/
def gSr (prev : Nat → Nat → Int32) (w : Nat → Int32) : Nat → Nat → Int32
  | 0, _ => 0
  | j + 1, 0 => mxI (prev (j + 1) 0) (gSr prev w j 0) + w j
  | j + 1, k + 1 => mxI (prev (j + 1) (k + 1)) (gSr prev w j (k + 1)) + mnI (prev (j + 1) k) (gSr prev w j k) - prev j k
def gS (C : Nat → Nat → Int32) : Nat → Nat → Nat → Int32
  | 0 => fun _ _ => 0
  | i + 1 => gSr (gS C i) (C i)
theorem gS_0 {C : Nat → Nat → Int32} {i j k : Nat} (h : i = 0 ∨ j = 0) : gS C i j k = 0 := by
  rcases h with rfl | rfl
  · rfl
  · cases i with
    | zero => rfl
    | succ i => rfl
theorem n7 (i j : Nat) : nI i * 7 + nI j = nI (7 * i + j) := by rw [show (7 : Int32) = nI 7 from rfl, pk_mul, nI_add, Nat.mul_comm]
/-- a corner grows -/
theorem x_corner {C Pa : Nat → Nat → Int32} {i j : Nat} (hi : i < 6) (hj : j < 6) (hp : ∀ k, k < 6 → Pa (7 * i + j) k = gS C i j k) (ha : ∀ k, k < 6 → Pa (7 * i + (j + 1)) k = gS C i (j + 1) k) (hb : ∀ k, k < 6 → Pa (7 * (i + 1) + j) k = gS C (i + 1) j k) {post : (Nat → Nat → Int32) → Prop} (h : ∀ Pa', (∀ k, k < 6 → Pa' (7 * (i + 1) + (j + 1)) k = gS C (i + 1) (j + 1) k) → (∀ r k, r ≠ 7 * (i + 1) + (j + 1) → Pa' r k = Pa r k) → post Pa') : p_X0_growCorner C Pa (nI (i + 1)) (nI (j + 1)) post := by
  unfold p_X0_growCorner p_X0_cornerNumber
  dsimp only
  rw [nI_pred, nI_pred, n7, n7, n7, n7, nI_clamp (by omega), nI_clamp (by omega), nI_clamp (by omega), nI_clamp (by omega), nI_clamp (by omega), nI_clamp (by omega), show (0 : Int32).toNatClampNeg = 0 from rfl]
  refine ⟨pk_in (7 * i + j) 49 (by omega), pk_in (7 * i + (j + 1)) 49 (by omega), pk_in (7 * (i + 1) + j) 49 (by omega), pk_in (7 * (i + 1) + (j + 1)) 49 (by omega), pk_in 0 6 (by omega), pk_in 0 6 (by omega), pk_in i 6 (by omega), pk_in j 6 (by omega), pk_in 0 6 (by omega), ?_⟩
  refine pk_loop (fun u k P => p_X0_growCorner_86 C (nI (i + 1)) (nI (j + 1)) post u P (7 * i + j) (7 * i + (j + 1)) (7 * (i + 1) + j) (7 * (i + 1) + (j + 1)) (nI k)) (fun k P => 1 ≤ k ∧ (∀ k', k' < k → P (7 * (i + 1) + (j + 1)) k' = gS C (i + 1) (j + 1) k') ∧ ∀ r k', r ≠ 7 * (i + 1) + (j + 1) → P r k' = Pa r k') 6 1 _ (by omega) ⟨Nat.le_refl 1, fun k' hk' => ?_, fun r k' hr => ?_⟩ (fun u P hP => ?_) (fun u k P hk hP ih => ?_)
  · have e : k' = 0 := by omega
    subst e
    rw [up2_at, if_pos ⟨rfl, rfl⟩, ha 0 (by omega), hb 0 (by omega)]
    rfl
  · rw [up2_at, if_neg (fun q => hr q.1)]
  · show p_X0_growCorner_86 _ _ _ _ _ _ _ _ _ _ _
    unfold p_X0_growCorner_86
    exact pk_le 6 6 (fun _ => h P (fun k hk => hP.2.1 k hk) hP.2.2) (fun q => by omega)
  · show p_X0_growCorner_86 _ _ _ _ _ _ _ _ _ _ _
    unfold p_X0_growCorner_86
    obtain ⟨h1, h2, h3⟩ := hP
    obtain ⟨l, rfl⟩ : ∃ l, k = l + 1 := ⟨k - 1, by omega⟩
    rw [nI_pred, nI_1, nI_clamp (by omega), nI_clamp (by omega)]
    have hl : vp_in (nI l) 6 := pk_in l 6 (by omega)
    have hl1 : vp_in (nI (l + 1)) 6 := pk_in (l + 1) 6 (by omega)
    refine pk_le 6 (l + 1) (fun q => by omega) (fun _ => ⟨hl1, hl1, hl, hl, hl, hl1, ?_⟩)
    rw [h3 _ _ (show 7 * i + j ≠ 7 * (i + 1) + (j + 1) by omega), h3 _ _ (show 7 * i + (j + 1) ≠ 7 * (i + 1) + (j + 1) by omega), h3 _ _ (show 7 * (i + 1) + j ≠ 7 * (i + 1) + (j + 1) by omega), h3 _ _ (show 7 * i + (j + 1) ≠ 7 * (i + 1) + (j + 1) by omega), h3 _ _ (show 7 * (i + 1) + j ≠ 7 * (i + 1) + (j + 1) by omega), ha _ (by omega), ha _ (by omega), hb _ (by omega), hb _ (by omega), hp _ (by omega)]
    refine ih _ ⟨by omega, fun k' hk' => ?_, fun r k' hr => ?_⟩
    · rw [up2_at]
      by_cases e : k' = l + 1
      · subst e; rw [if_pos ⟨rfl, rfl⟩]; rfl
      · rw [if_neg (fun q => e q.2)]; exact h2 k' (by omega)
    · rw [up2_at, if_neg (fun q => hr q.1)]; exact h3 r k' hr
theorem x_shapes {C Pa : Nat → Nat → Int32} {m n : Nat} (hm : m ≤ 6) (hn : n ≤ 6) (h0 : ∀ r k, r < 49 → (r < 7 ∨ r % 7 = 0) → k < 6 → Pa r k = 0) {post : (Nat → Nat → Int32) → Prop} (h : ∀ Pa', (∀ r k, r < 49 → (r < 7 ∨ r % 7 = 0) → k < 6 → Pa' r k = 0) → (∀ i j k, i ≤ m → j ≤ n → k < 6 → Pa' (7 * i + j) k = gS C i j k) → post Pa') : p_X0_growShapes (nI m) (nI n) C Pa post := by
  unfold p_X0_growShapes
  refine pk_loop (fun u i P => p_X0_growShapes_2 (nI m) (nI n) C post u P (nI i)) (fun i P => 1 ≤ i ∧ (∀ r k, r < 49 → (r < 7 ∨ r % 7 = 0) → k < 6 → P r k = 0) ∧ ∀ p q k, p < i → q ≤ n → k < 6 → P (7 * p + q) k = gS C p q k) (m + 1) 1 Pa (by omega) ⟨Nat.le_refl 1, h0, fun p q k hp hq hk => ?_⟩ (fun u P hP => ?_) (fun u i P hi hP ih => ?_)
  · rw [gS_0 (Or.inl (by omega)), h0 _ k (by omega) (Or.inl (by omega)) hk]
  · show p_X0_growShapes_2 _ _ _ _ _ _ _
    unfold p_X0_growShapes_2
    exact pk_lt m (m + 1) (fun _ => h P hP.2.1 (fun i j k hi hj hk => hP.2.2 i j k (by omega) hj hk)) (fun q => by omega)
  · show p_X0_growShapes_2 _ _ _ _ _ _ _
    unfold p_X0_growShapes_2
    obtain ⟨g1, g2, g3⟩ := hP
    refine pk_lt m i (fun q => by omega) (fun _ => ?_)
    refine pk_loop (fun u j P => p_X0_growShapes_12 (nI m) (nI n) C post _ u P (nI i) (nI j)) (fun j P => 1 ≤ j ∧ (∀ r k, r < 49 → (r < 7 ∨ r % 7 = 0) → k < 6 → P r k = 0) ∧ ∀ p q k, q ≤ n → k < 6 → (p < i ∨ (p = i ∧ q < j)) → P (7 * p + q) k = gS C p q k) (n + 1) 1 P (by omega) ⟨Nat.le_refl 1, g2, fun p q k hq hk hpq => ?_⟩ (fun u' P' hP' => ?_) (fun u' j P' hj hP' ih2 => ?_)
    · rcases hpq with hp | ⟨rfl, hq0⟩
      · exact g3 p q k hp hq hk
      · rw [gS_0 (Or.inr (by omega)), g2 _ k (by omega) (Or.inr (by omega)) hk]
    · show p_X0_growShapes_12 _ _ _ _ _ _ _ _ _
      unfold p_X0_growShapes_12
      refine pk_lt n (n + 1) (fun _ => ?_) (fun q => by omega)
      rw [nI_1]
      exact ih P' ⟨by omega, hP'.2.1, fun p q k hp hq hk => hP'.2.2 p q k hq hk (by omega)⟩
    · show p_X0_growShapes_12 _ _ _ _ _ _ _ _ _
      unfold p_X0_growShapes_12
      obtain ⟨f1, f2, f3⟩ := hP'
      refine pk_lt n j (fun q => by omega) (fun _ => ?_)
      obtain ⟨a, rfl⟩ : ∃ a, i = a + 1 := ⟨i - 1, by omega⟩
      obtain ⟨b, rfl⟩ : ∃ b, j = b + 1 := ⟨j - 1, by omega⟩
      refine x_corner (by omega) (by omega) (fun k hk => f3 _ _ k (by omega) hk (by omega)) (fun k hk => f3 _ _ k (by omega) hk (by omega)) (fun k hk => f3 _ _ k (by omega) hk (by omega)) (fun P2 e1 e2 => ?_)
      rw [nI_1]
      refine ih2 P2 ⟨by omega, fun r k hr hr2 hk => ?_, fun p q k hq hk hpq => ?_⟩
      · rw [e2 r k (by omega)]; exact f2 r k hr hr2 hk
      · by_cases e : p = a + 1 ∧ q = b + 1
        · obtain ⟨rfl, rfl⟩ := e; exact e1 k hk
        · rw [e2 _ k (by omega)]; exact f3 p q k hq hk (by omega)
theorem n67 (i j : Nat) : 6 * (7 * nI i + nI j) = nI (42 * i + 6 * j) := by rw [show (7 : Int32) = nI 7 from rfl, show (6 : Int32) = nI 6 from rfl, pk_mul, nI_add, pk_mul]; congr 1; omega
theorem nI_sb {a : Nat} (b : Nat) (h : b ≤ a) : nI a - nI b = nI (a - b) := pk_sub h
theorem mnI_alt (a b : Int32) : mnI a b = if b ≤ a then b else a := by
  unfold mnI
  by_cases q : b < a
  · rw [if_pos q, if_pos (Int32.le_of_lt q)]
  · rw [if_neg q]
    by_cases q2 : b ≤ a
    · rw [if_pos q2]; exact Int32.le_antisymm (le_not_lt.mpr q) q2
    · rw [if_neg q2]
theorem m_shapes {C : Nat → Nat → Int32} {we pa : Nat → Int32} {m n : Nat} (hm : m ≤ 6) (hn : n ≤ 6) (hw : ∀ i j, i < 6 → j < 6 → we (6 * i + j) = C i j) {post : (Nat → Int32) → Prop} (h : ∀ pa', (∀ i j k, i ≤ m → j ≤ n → k < 6 → pa' (42 * i + 6 * j + k) = gS C i j k) → post pa') : p_X5_findShapes (nI m) (nI n) we pa post := by
  unfold p_X5_findShapes
  refine pk_loop (fun u i P => p_X5_findShapes_2 (nI m) (nI n) we post u P (nI i)) (fun i P => ∀ p q k, p < i → q ≤ n → k < 6 → P (42 * p + 6 * q + k) = gS C p q k) (m + 1) 0 pa (by omega) (fun p q k hp hq hk => by omega) (fun u P hP => ?_) (fun u i P hi hP ih => ?_)
  · show p_X5_findShapes_2 _ _ _ _ _ _ _
    unfold p_X5_findShapes_2
    exact pk_lt m (m + 1) (fun _ => h P (fun i j k hi hj hk => hP i j k (by omega) hj hk)) (fun q => by omega)
  · show p_X5_findShapes_2 _ _ _ _ _ _ _
    unfold p_X5_findShapes_2
    refine pk_lt m i (fun q => by omega) (fun _ => ?_)
    refine pk_loop (fun u j P => p_X5_findShapes_12 (nI m) (nI n) we post _ u P (nI i) (nI j)) (fun j P => ∀ p q k, q ≤ n → k < 6 → (p < i ∨ (p = i ∧ q < j)) → P (42 * p + 6 * q + k) = gS C p q k) (n + 1) 0 P (by omega) (fun p q k hq hk hpq => hP p q k (by omega) hq hk) (fun u' P' hP' => ?_) (fun u' j P' hj hP' ih2 => ?_)
    · show p_X5_findShapes_12 _ _ _ _ _ _ _ _ _
      unfold p_X5_findShapes_12
      refine pk_lt n (n + 1) (fun _ => ?_) (fun q => by omega)
      rw [nI_1]
      exact ih P' (fun p q k hp hq hk => hP' p q k hq hk (by omega))
    · show p_X5_findShapes_12 _ _ _ _ _ _ _ _ _
      unfold p_X5_findShapes_12
      rw [n67]
      refine pk_lt n j (fun q => by omega) (fun _ => ?_)
      refine pk_loop (fun u k P => p_X5_findShapes_33 (nI m) (nI n) we post _ _ u P (nI i) (nI j) (nI (42 * i + 6 * j)) (nI k)) (fun l P => ∀ p q k, q ≤ n → k < 6 → (p < i ∨ (p = i ∧ q < j) ∨ (p = i ∧ q = j ∧ k < l)) → P (42 * p + 6 * q + k) = gS C p q k) 6 0 P' (by omega) (fun p q k hq hk hpq => hP' p q k hq hk (by omega)) (fun v F hF => ?_) (fun v l F hl hF ih3 => ?_)
      · show p_X5_findShapes_33 _ _ _ _ _ _ _ _ _ _ _ _
        unfold p_X5_findShapes_33
        refine pk_le 6 6 (fun _ => ?_) (fun q => by omega)
        rw [nI_1]
        exact ih2 F (fun p q k hq hk hpq => hF p q k hq hk (by omega))
      · show p_X5_findShapes_33 _ _ _ _ _ _ _ _ _ _ _ _
        have fin : ∀ v', v' = gS C i j l → p_X5_findShapes_33 (nI m) (nI n) we post _ _ v (upd F (42 * i + 6 * j + l) v') (nI i) (nI j) (nI (42 * i + 6 * j)) (nI (l + 1)) := fun v' hv' => ih3 _ (fun p q k hq hk hpq => by
          rw [upd_at]
          by_cases e : p = i ∧ q = j ∧ k = l
          · obtain ⟨rfl, rfl, rfl⟩ := e
            rw [if_pos rfl, hv']
          · rw [if_neg (by omega)]; exact hF p q k hq hk (by omega))
        unfold p_X5_findShapes_33 p_X5_findShapes_66 p_X5_findShapes_168 p_X5_findShapes_214
        rw [nI_add, nI_1, nI_1]
        have hin : vp_in (nI (42 * i + 6 * j + l)) 294 := pk_in (42 * i + 6 * j + l) 294 (by omega)
        refine pk_le 6 l (fun q => by omega) (fun _ => pk_eq i 0 (fun q => ⟨hin, ?_⟩) (fun q => pk_eq j 0 (fun q2 => ⟨hin, ?_⟩) (fun q2 => ?_)))
        · rw [nI_clamp (by omega)]; exact fin 0 (by rw [gS_0 (Or.inl q)])
        · rw [nI_clamp (by omega)]; exact fin 0 (by rw [gS_0 (Or.inr q2)])
        · obtain ⟨a, rfl⟩ : ∃ a, i = a + 1 := ⟨i - 1, by omega⟩
          obtain ⟨b, rfl⟩ : ∃ b, j = b + 1 := ⟨j - 1, by omega⟩
          rw [show (42 : Int32) = nI 42 from rfl, show (48 : Int32) = nI 48 from rfl, nI_sb 42 (by omega), nI_sb 48 (by omega)]
          rw [show nI (42 * (a + 1) + 6 * (b + 1)) - 6 = nI (42 * (a + 1) + 6 * b) from nI_sb 6 (by omega)]
          rw [nI_add, nI_add, nI_add, nI_pred, n6]
          have e1 : 42 * (a + 1) + 6 * (b + 1) - 42 = 42 * a + 6 * (b + 1) := by omega
          have e2 : 42 * (a + 1) + 6 * (b + 1) - 48 = 42 * a + 6 * b := by omega
          rw [e1, e2]
          refine pk_eq l 0 (fun q3 => ?_) (fun q3 => ?_)
          · subst q3
            have f1 := hF a (b + 1) 0 (by omega) (by omega) (by omega)
            have f2 := hF (a + 1) b 0 (by omega) (by omega) (by omega)
            rw [nI_m1 (by omega), nI_clamp (by omega), nI_clamp (by omega), nI_clamp (by omega), nI_clamp (by omega), f1, f2]
            refine ⟨pk_in (42 * a + 6 * (b + 1) + 0) 294 (by omega), pk_in (42 * (a + 1) + 6 * b + 0) 294 (by omega), m_greater ⟨pk_in (6 * a + (b + 1) - 1) 36 (by omega), pk_in (42 * (a + 1) + 6 * (b + 1)) 294 (by omega), ?_⟩⟩
            refine fin _ ?_
            rw [show 6 * a + (b + 1) - 1 = 6 * a + b by omega, hw a b (by omega) (by omega)]
            rfl
          · obtain ⟨k, rfl⟩ : ∃ k, l = k + 1 := ⟨l - 1, by omega⟩
            have f1 := hF a (b + 1) k (by omega) (by omega) (by omega)
            have f2 := hF (a + 1) b k (by omega) (by omega) (by omega)
            have f3 := hF a (b + 1) (k + 1) (by omega) (by omega) (by omega)
            have f4 := hF (a + 1) b (k + 1) (by omega) (by omega) (by omega)
            have f5 := hF a b k (by omega) (by omega) (by omega)
            rw [nI_m1 (by omega), nI_m1 (by omega), nI_m1 (by omega), nI_clamp (by omega), nI_clamp (by omega), nI_clamp (by omega), nI_clamp (by omega), nI_clamp (by omega), nI_clamp (by omega)]
            rw [show 42 * a + 6 * (b + 1) + (k + 1) - 1 = 42 * a + 6 * (b + 1) + k by omega, show 42 * (a + 1) + 6 * b + (k + 1) - 1 = 42 * (a + 1) + 6 * b + k by omega, show 42 * a + 6 * b + (k + 1) - 1 = 42 * a + 6 * b + k by omega, f1, f2, f3, f4, f5]
            have i1 : vp_in (nI (42 * a + 6 * (b + 1) + k)) 294 := pk_in (42 * a + 6 * (b + 1) + k) 294 (by omega)
            have i2 : vp_in (nI (42 * (a + 1) + 6 * b + k)) 294 := pk_in (42 * (a + 1) + 6 * b + k) 294 (by omega)
            have i3 : vp_in (nI (42 * a + 6 * (b + 1) + (k + 1))) 294 := pk_in (42 * a + 6 * (b + 1) + (k + 1)) 294 (by omega)
            have i4 : vp_in (nI (42 * (a + 1) + 6 * b + (k + 1))) 294 := pk_in (42 * (a + 1) + 6 * b + (k + 1)) 294 (by omega)
            have i5 : vp_in (nI (42 * a + 6 * b + k)) 294 := pk_in (42 * a + 6 * b + k) 294 (by omega)
            refine ⟨i1, i2, fun q4 => ⟨i2, i3, i4, m_greater ⟨i5, hin, fin _ ?_⟩⟩, fun q4 => ⟨i1, i3, i4, m_greater ⟨i5, hin, fin _ ?_⟩⟩⟩
            · show _ = mxI _ _ + mnI (gS C a (b + 1) k) (gS C (a + 1) b k) - _
              rw [mnI_alt, if_pos q4]; rfl
            · show _ = mxI _ _ + mnI (gS C a (b + 1) k) (gS C (a + 1) b k) - _
              rw [mnI_alt, if_neg q4]; rfl
theorem st_shape {M N : Int32} {C Pa : Nat → Nat → Int32} {mm nn : Int32} {we : Nat → Int32} (h : IG M N C Pa mm nn we) (pa : Nat → Int32) (x1 x2 x3 : Int32) {K : (Nat → Nat → Int32) → (Nat → Int32) → Prop} (hK : ∀ Pa' pa', IG M N C Pa' mm nn we → K Pa' pa') :
    p_X4_shape M N C Pa x1 x2 x3 (fun r Pa' => p_X5_shape mm nn we pa x1 x2 x3 (fun r' pa' => (r = r' → K Pa' pa') ∧ (¬ r = r' → False))) := by
  obtain ⟨m, n, hm, hn, rfl, rfl, rfl, rfl, hw, hb, hPa⟩ := id h
  unfold p_X4_shape p_X5_shape p_X0_hasCorner
  refine x_within (fun c1 => z1 ?_) (fun c1 => z0 (z0 (m_inF (a := 0) c1 (z0 (fin_eq rfl (hK _ _ h))))))
  refine x_within (fun c2 => z1 ?_) (fun c2 => z0 (z0 (m_inT (a := 0) c1 (z1 (m_inF (a := 0) c2 (z0 (fin_eq rfl (hK _ _ h))))))))
  refine z1 (x_within (fun c3 => z1 ?_) (fun c3 => z0 (m_inT (a := 0) c1 (z1 (m_inT (a := 0) c2 (z1 (m_inF (a := 0) c3 (z0 (fin_eq rfl (hK _ _ h))))))))))
  obtain ⟨i, hi, rfl⟩ := n_of_le rfl (by omega) c1.1 c1.2
  obtain ⟨j, hj, rfl⟩ := n_of_le rfl (by omega) c2.1 c2.2
  obtain ⟨k, hk, rfl⟩ := n_of_le (show (5 : Int32) = nI 5 from rfl) (by omega) c3.1 c3.2
  refine x_shapes hm.2 hn.2 hPa (fun Pa' hP0 hP => ?_)
  unfold p_X0_partAt p_X0_cornerNumber
  dsimp only
  rw [n7, nI_clamp (by omega), nI_clamp (by omega), hP i j k hi hj (by omega)]
  refine ⟨pk_in (7 * i + j) 49 (by omega), pk_in k 6 (by omega), m_inT (a := 0) c1 (z1 (m_inT (a := 0) c2 (z1 (m_inT (a := 0) c3 (z1 (m_shapes hm.2 hn.2 hw (fun pa' hp => ?_)))))))⟩
  rw [n67, nI_add, nI_clamp (by omega)]
  exact ⟨pk_in (42 * i + 6 * j + k) 294 (by omega), fin_eq (hp i j k hi hj (by omega)).symm (hK _ _ ⟨m, n, hm, hn, rfl, rfl, rfl, rfl, hw, hb, hP0⟩)⟩
def sumI (F : Nat → Int32) : Nat → Int32
  | 0 => 0
  | j + 1 => sumI F j + F j
theorem st_ways {M N : Int32} {C Pa : Nat → Nat → Int32} {mm nn : Int32} {we : Nat → Int32} (h : IG M N C Pa mm nn we) (pa : Nat → Int32) (x1 : Int32) {K : (Nat → Nat → Int32) → (Nat → Int32) → Prop} (hK : ∀ Pa' pa', IG M N C Pa' mm nn we → K Pa' pa') :
    p_X4_ways M N C Pa x1 (fun r Pa' => p_X5_ways mm nn we pa x1 (fun r' pa' => (r = r' → K Pa' pa') ∧ (¬ r = r' → False))) := by
  obtain ⟨m, n, hm, hn, rfl, rfl, rfl, rfl, hw, hb, hPa⟩ := id h
  unfold p_X4_ways p_X5_ways
  refine x_within (fun c1 => z1 ?_) (fun c1 => z0 (m_inF (a := 1) c1 (z0 (fin_eq rfl (hK _ _ h)))))
  obtain ⟨c, hc, rfl⟩ := n_of_le (show (6 : Int32) = nI 6 from rfl) (by omega) (Int32.le_trans (by decide) c1.1) c1.2
  refine x_shapes hm.2 hn.2 hPa (fun Pa' hP0 hP => ?_)
  unfold p_X0_firstPartsAtEnd
  refine pk_loop (fun u k x => p_X0_firstPartsAtEnd_4 (nI m) (nI n) Pa' (nI c) _ u x (nI k)) (fun k x => x = sumI (gS C m n) k) c 0 0 (by omega) rfl (fun u x hx => ?_) (fun u k x hk hx ih => ?_)
  · show p_X0_firstPartsAtEnd_4 _ _ _ _ _ _ _ _
    unfold p_X0_firstPartsAtEnd_4
    refine pk_le c c (fun _ => m_inT (a := 1) c1 (z1 (m_shapes hm.2 hn.2 hw (fun pa' hp => ?_)))) (fun q => by omega)
    refine pk_loop (fun u k x => p_X5_ways_22 (nI m) (nI n) we (nI c) _ u pa' x (nI k)) (fun k x => x = sumI (gS C m n) k) c 0 0 (by omega) rfl (fun u x2 hx2 => ?_) (fun u k x2 hk hx2 ih => ?_)
    · show p_X5_ways_22 _ _ _ _ _ _ _ _ _
      unfold p_X5_ways_22
      exact pk_le c c (fun _ => fin_eq (by rw [hx, hx2]) (hK _ _ ⟨m, n, hm, hn, rfl, rfl, rfl, rfl, hw, hb, hP0⟩)) (fun q => by omega)
    · show p_X5_ways_22 _ _ _ _ _ _ _ _ _
      unfold p_X5_ways_22
      rw [n67, nI_add, nI_1, nI_clamp (by omega), hp m n k (by omega) (by omega) (by omega)]
      exact pk_le c k (fun q => by omega) (fun _ => ⟨pk_in (42 * m + 6 * n + k) 294 (by omega), ih _ (by rw [hx2]; rfl)⟩)
  · show p_X0_firstPartsAtEnd_4 _ _ _ _ _ _ _ _
    unfold p_X0_firstPartsAtEnd_4 p_X0_partAt p_X0_cornerNumber
    dsimp only
    rw [n7, nI_1, nI_clamp (by omega), nI_clamp (by omega), hP m n k (by omega) (by omega) (by omega)]
    exact pk_le c k (fun q => by omega) (fun _ => ⟨pk_in (7 * m + n) 49 (by omega), pk_in k 6 (by omega), ih _ (by rw [hx]; rfl)⟩)
