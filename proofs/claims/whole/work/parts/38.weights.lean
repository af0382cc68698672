/-! weights -/
theorem nd_of {n i j k : Nat} (hj : j < n) (h : n * i + j = k) : i = k / n ∧ j = k % n := by
  subst h
  rw [Nat.mul_add_div (by omega), Nat.mul_add_mod, Nat.div_eq_of_lt hj, Nat.mod_eq_of_lt hj]
  exact ⟨by omega, rfl⟩
theorem nd_lt {n i j m : Nat} (hi : i < m) (hj : j < n) : n * i + j < n * m := by
  have := Nat.mul_le_mul_left n (show i + 1 ≤ m by omega)
  rw [Nat.mul_succ] at this
  omega
theorem nd_rev {n m k : Nat} (h : k < n * m) : k / n < m ∧ k % n < n ∧ n * (k / n) + k % n = k := by
  have hn : 0 < n := by
    rcases Nat.eq_zero_or_pos n with z | z
    · subst z; rw [Nat.zero_mul] at h; omega
    · exact z
  exact ⟨(Nat.div_lt_iff_lt_mul hn).mpr (by rw [Nat.mul_comm]; exact h), Nat.mod_lt _ hn, Nat.div_add_mod k n⟩
theorem sumI_congr {F G : Nat → Int32} : ∀ n, (∀ j, j < n → F j = G j) → sumI F n = sumI G n
  | 0, _ => rfl
  | n + 1, h => by show sumI F n + F n = sumI G n + G n; rw [sumI_congr n (fun j hj => h j (by omega)), h n (by omega)]
theorem x_total {C : Nat → Nat → Int32} {m n : Nat} (hm : m ≤ 6) (hn : n ≤ 6) {post : Int32 → Prop} (h : post (sumI (fun k => C (k / n) (k % n)) (n * m))) : p_X0_total (nI m) (nI n) C post := by
  unfold p_X0_total
  refine pk_loop (fun u i x => p_X0_total_4 (nI m) (nI n) C post u x (nI i)) (fun i x => x = sumI (fun k => C (k / n) (k % n)) (n * i)) m 0 0 (by omega) rfl (fun u x hx => ?_) (fun u i x hi hx ih => ?_)
  · show p_X0_total_4 _ _ _ _ _ _ _
    unfold p_X0_total_4
    exact pk_le m m (fun _ => by rw [hx]; exact h) (fun q => by omega)
  · show p_X0_total_4 _ _ _ _ _ _ _
    unfold p_X0_total_4
    refine pk_le m i (fun q => by omega) (fun _ => ?_)
    refine pk_loop (fun u j x => p_X0_total_14 (nI m) (nI n) C post _ u x (nI i) (nI j)) (fun j x => x = sumI (fun k => C (k / n) (k % n)) (n * i + j)) n 0 x (by omega) hx (fun u' x' hx' => ?_) (fun u' j x' hj hx' ih2 => ?_)
    · show p_X0_total_14 _ _ _ _ _ _ _ _ _
      unfold p_X0_total_14
      refine pk_le n n (fun _ => ?_) (fun q => by omega)
      rw [nI_1]
      exact ih x' (by rw [hx', Nat.mul_succ])
    · show p_X0_total_14 _ _ _ _ _ _ _ _ _
      unfold p_X0_total_14
      rw [nI_1, nI_1, nI_clamp (by omega), nI_clamp (by omega)]
      refine pk_le n j (fun q => by omega) (fun _ => ⟨pk_in i 6 (by omega), pk_in j 6 (by omega), ih2 _ ?_⟩)
      have e := nd_of (k := n * i + j) hj rfl
      show _ = sumI _ (n * i + j) + C ((n * i + j) / n) ((n * i + j) % n)
      rw [hx', ← e.1, ← e.2]
theorem x_take {I : Nat → Int64} {C : Nat → Nat → Int32} {m n f : Nat} (hm : m ≤ 6) (hn : n ≤ 6) (hf : f + n * m ≤ 36) {post : (Nat → Nat → Int32) → Prop} (h : ∀ C', (∀ p q, p < 6 → q < 6 → C' p q = if q < n ∧ p < m then (I (f + (n * p + q))).toInt32 else C p q) → post C') : p_X0_takeFrom I (nI m) (nI n) C (nI f) post := by
  unfold p_X0_takeFrom
  refine pk_loop (fun u i (s : (Nat → Nat → Int32) × Int32) => p_X0_takeFrom_5 I (nI m) (nI n) (nI f) post u s.1 s.2 (nI i)) (fun i s => s.2 = nI (f + n * i) ∧ ∀ p q, p < 6 → q < 6 → s.1 p q = if q < n ∧ p < i then (I (f + (n * p + q))).toInt32 else C p q) m 0 (C, nI f) (by omega) ⟨rfl, fun p q _ _ => by rw [if_neg (by omega)]⟩ (fun u s hs => ?_) (fun u i s hi hs ih => ?_)
  · show p_X0_takeFrom_5 _ _ _ _ _ _ _ _ _
    unfold p_X0_takeFrom_5
    exact pk_le m m (fun _ => h s.1 hs.2) (fun q => by omega)
  · show p_X0_takeFrom_5 _ _ _ _ _ _ _ _ _
    unfold p_X0_takeFrom_5
    refine pk_le m i (fun q => by omega) (fun _ => ?_)
    refine pk_loop (fun u j (s : (Nat → Nat → Int32) × Int32) => p_X0_takeFrom_17 I (nI m) (nI n) (nI f) post _ u s.1 s.2 (nI i) (nI j)) (fun j s => s.2 = nI (f + (n * i + j)) ∧ ∀ p q, p < 6 → q < 6 → s.1 p q = if q < n ∧ (p < i ∨ (p = i ∧ q < j)) then (I (f + (n * p + q))).toInt32 else C p q) n 0 (s.1, s.2) (by omega) ⟨hs.1, fun p q hp hq => ?_⟩ (fun u' s' hs' => ?_) (fun u' j s' hj hs' ih2 => ?_)
    · show s.1 p q = _
      rw [hs.2 p q hp hq]
      by_cases c : q < n ∧ p < i
      · rw [if_pos c, if_pos ⟨c.1, Or.inl c.2⟩]
      · rw [if_neg c, if_neg (by omega)]
    · show p_X0_takeFrom_17 _ _ _ _ _ _ _ _ _ _ _
      unfold p_X0_takeFrom_17
      refine pk_le n n (fun _ => ?_) (fun q => by omega)
      rw [nI_1]
      refine ih (s'.1, s'.2) ⟨by rw [Nat.mul_succ]; exact hs'.1, fun p q hp hq => ?_⟩
      show s'.1 p q = _
      rw [hs'.2 p q hp hq]
      by_cases c : q < n ∧ p < i + 1
      · rw [if_pos c, if_pos (by omega)]
      · rw [if_neg c, if_neg (by omega)]
    · show p_X0_takeFrom_17 _ _ _ _ _ _ _ _ _ _ _
      unfold p_X0_takeFrom_17 p_X1_itemAt
      have hlt := nd_lt hi hj
      rw [hs'.1, nI_1, nI_1, nI_1, nI_clamp (by omega), nI_clamp (by omega), nI_clamp (by omega)]
      refine pk_le n j (fun q => by omega) (fun _ => ⟨pk_in i 6 (by omega), pk_in (f + (n * i + j)) 36 (by omega), pk_in j 6 (by omega), ih2 (_, _) ⟨rfl, fun p q hp hq => ?_⟩⟩)
      show up2 _ _ _ _ _ = _
      rw [up2_at, hs'.2 p q hp hq]
      by_cases e : p = i ∧ q = j
      · rw [if_pos e, if_pos (by omega), e.1, e.2]
      · rw [if_neg e]
        by_cases c : q < n ∧ (p < i ∨ (p = i ∧ q < j))
        · rw [if_pos c, if_pos (by omega)]
        · rw [if_neg c, if_neg (by omega)]
theorem x_areW {I : Nat → Int64} {F : Nat → Int32} {f c : Nat} (hc : f + c ≤ 36) (hF : ∀ k, k < c → I (f + k) = (F k).toInt64) {post : Int32 → Prop} (h1 : (∀ k, k < c → 0 ≤ F k ∧ F k ≤ 20) → post 1) (h0 : ∀ k, k < c → ¬ (0 ≤ F k ∧ F k ≤ 20) → post 0) : p_X1_areWeights I (nI f) (nI c) post := by
  unfold p_X1_areWeights
  refine pk_loop (fun u k (_ : Unit) => p_X1_areWeights_2 I (nI f) (nI c) post u (nI (f + k))) (fun k _ => ∀ l, l < k → 0 ≤ F l ∧ F l ≤ 20) c 0 () (by omega) (fun l hl => by omega) (fun u s hs => ?_) (fun u k s hk hs ih => ?_)
  · show p_X1_areWeights_2 _ _ _ _ _ _
    unfold p_X1_areWeights_2
    rw [nI_add]
    exact pk_le (f + c) (f + c) (fun _ => h1 hs) (fun q => by omega)
  · show p_X1_areWeights_2 _ _ _ _ _ _
    unfold p_X1_areWeights_2
    rw [nI_add, nI_1, nI_clamp (by omega), hF k hk]
    refine pk_le (f + c) (f + k) (fun q => by omega) (fun _ => ⟨pk_in (f + k) 36 (by omega), x_weightT (fun q => z1 (ih () (fun l hl => ?_))) (fun q => z0 (h0 k hk q))⟩)
    by_cases e : l = k
    · subst e; exact q
    · exact hs l (by omega)
theorem x3264 (a : Int32) : a.toInt64.toInt32 = a := by simp
theorem st_weights {M N : Int32} {C Pa : Nat → Nat → Int32} {mm nn : Int32} {we : Nat → Int32} {I : Nat → Nat → Int64} {Ln Sz la si it : Nat → Int32} (h : IG M N C Pa mm nn we) (hS : IS I Ln Sz la si it) (x1 x2 x3 : Int32) {K : (Nat → Nat → Int32) → (Nat → Int32) → Prop} (hK : ∀ C' we', IG M N C' Pa mm nn we' → K C' we') :
    p_X4_weights M N C I Ln Sz x1 x2 x3 (fun r C' => p_X5_weights mm nn we la si it x1 x2 x3 (fun r' we' => (r = r' → K C' we') ∧ (¬ r = r' → False))) := by
  obtain ⟨m, n, hm, hn, rfl, rfl, rfl, rfl, hw, hb, hPa⟩ := id h
  unfold p_X4_weights p_X0_placeCount
  dsimp only
  rw [pk_mul]
  refine x_look (fun c => ⟨fun q => absurd q (by decide), fun _ => by unfold p_X5_weights; exact m_sheetF c (z0 (fin_eq rfl (hK _ _ h)))⟩) (fun s hs e c1 c2 c3 => ⟨fun q => absurd q (by decide), fun _ => ?_⟩) (fun s hs e c1 c2 c3 c4 => ⟨fun q => absurd q (by decide), fun _ => ?_⟩) (fun s hs e c1 c2 c3 c4 c5 => ⟨fun q => absurd q (by decide), fun _ => ?_⟩) (fun s hs e c1 c2 c3 c4 c5 => ⟨fun _ => ?_, fun q => absurd rfl q⟩)
  all_goals
    subst e
    have hs4 : vp_in (nI s) 4 := pk_in s 4 hs
    obtain ⟨e1, e2, e3⟩ := hS s hs
  · unfold p_X5_weights
    refine m_sheetT c1 c2 (z1 ?_)
    rw [nI_clamp (by omega), e1]
    refine ⟨hs4, fun q => ?_, fun q => ⟨hs4, fun q2 => ?_, fun q2 => fin_eq rfl (hK _ _ h)⟩⟩
    · have := lane_neg (lane_of c2)
      rw [← q, c3] at this; exact absurd this (by decide)
    · rw [c3] at q2; exact absurd q2 (by decide)
  · unfold p_X5_weights
    refine m_sheetT c1 c2 (z1 ?_)
    rw [nI_clamp (by omega), e1]
    refine ⟨hs4, fun q => absurd q c4, fun q => ⟨hs4, fun q2 => fin_eq rfl (hK _ _ h), fun q2 => ?_⟩⟩
    rcases e2 with e2 | ⟨e2, -⟩
    · exact absurd e2 c3
    · exact absurd (lane_neg e2) q2
  · rcases e2 with e2 | ⟨e2, e4, k, hk, e5⟩
    · exact absurd e2 c3
    · unfold p_X5_weights
      refine m_sheetT c1 c2 (z1 ?_)
      rw [nI_clamp (by omega), e1, e4, pk_mul]
      exact ⟨hs4, fun q => ⟨hs4, m_inF (a := 0) c5 (z0 (fin_eq rfl (hK _ _ h)))⟩, fun q => absurd c4 q⟩
  · rcases e2 with e2 | ⟨e2, e4, k, hk, e5⟩
    · exact absurd e2 c3
    · have hmn : m * n ≤ 36 := Nat.mul_le_mul hm.2 hn.2
      have hk1 : m * n ≤ k := by
        rcases Nat.lt_or_ge k (m * n) with z | z
        · rw [e5] at c5
          exact absurd (Int32.le_trans c5.1 c5.2) (fun q => (le_not_lt.mp q) (pk_sneg (by omega) z))
        · exact z
      have ek : Sz s - nI (m * n) = nI (k - m * n) := by rw [e5]; exact pk_sub hk1
      obtain ⟨f, hf, rfl⟩ := n_of_le ek (by omega) c5.1 c5.2
      have hcm : n * m = m * n := Nat.mul_comm n m
      have hF : ∀ l, l < m * n → I s (f + l) = (it (36 * s + f + l)).toInt64 := fun l hl => by rw [e3 _ (by omega), show 36 * s + (f + l) = 36 * s + f + l by omega]
      have hmod : ∀ (post : Int32 → (Nat → Int32) → Prop), ((∀ l, l < m * n → 0 ≤ it (36 * s + f + l) ∧ it (36 * s + f + l) ≤ 20) → ∀ we', (∀ p q, p < 6 → q < 6 → we' (6 * p + q) = if q < n ∧ p < m then it (36 * s + f + (n * p + q)) else we (6 * p + q)) → post (sumI (fun l => it (36 * s + f + l)) (m * n)) we') → (¬ (∀ l, l < m * n → 0 ≤ it (36 * s + f + l) ∧ it (36 * s + f + l) ≤ 20) → post (-2) we) → p_X5_weights (nI m) (nI n) we la si it (nI s) x2 (nI f) post := by
        intro post p1 p0
        unfold p_X5_weights
        refine m_sheetT c1 c2 (z1 ?_)
        rw [nI_clamp (by omega), e1, e4, pk_mul]
        refine ⟨hs4, fun q => ⟨hs4, m_inT (a := 0) c5 (z1 ?_)⟩, fun q => absurd c4 q⟩
        rw [n36]
        refine pk_loop (fun u l x => p_X5_weights_80 (nI m) (nI n) la si it (nI s) x2 (nI f) post u we x (nI (36 * s + f)) (nI l)) (fun l x => (∀ l', l' < l → 0 ≤ it (36 * s + f + l') ∧ it (36 * s + f + l') ≤ 20) ∧ x = sumI (fun l => it (36 * s + f + l)) l) (m * n) 0 0 (by omega) ⟨fun l' hl' => by omega, rfl⟩ (fun u x hx => ?_) (fun u l x hl hx ih => ?_)
        · show p_X5_weights_80 _ _ _ _ _ _ _ _ _ _ _ _ _ _
          unfold p_X5_weights_80
          rw [pk_mul]
          refine pk_le (m * n) (m * n) (fun _ => ?_) (fun q => by omega)
          refine pk_loop (fun u l w => p_X5_weights_142 (nI m) (nI n) la si it (nI s) x2 (nI f) post u w x (nI (36 * s + f)) (nI l)) (fun l w => ∀ p q, p < 6 → q < 6 → w (6 * p + q) = if q < n ∧ n * p + q < l then it (36 * s + f + (n * p + q)) else we (6 * p + q)) (m * n) 0 we (by omega) (fun p q _ _ => by rw [if_neg (by omega)]) (fun u w hw' => ?_) (fun u l w hl hw' ih => ?_)
          · show p_X5_weights_142 _ _ _ _ _ _ _ _ _ _ _ _ _ _
            unfold p_X5_weights_142
            rw [pk_mul]
            refine pk_le (m * n) (m * n) (fun _ => ?_) (fun q => by omega)
            rw [hx.2]
            refine p1 hx.1 w (fun p q hp hq => ?_)
            rw [hw' p q hp hq]
            by_cases c : q < n ∧ p < m
            · rw [if_pos c, if_pos ⟨c.1, by rw [← hcm]; exact nd_lt c.2 c.1⟩]
            · rw [if_neg c, if_neg (fun q2 => c ⟨q2.1, ?_⟩)]
              have z := q2.2
              rw [← hcm] at z
              have y := nd_rev z
              have y2 := nd_of (k := n * p + q) q2.1 rfl
              rw [y2.1]; exact y.1
          · show p_X5_weights_142 _ _ _ _ _ _ _ _ _ _ _ _ _ _
            unfold p_X5_weights_142
            rw [pk_mul, pk_rem (by omega) (by omega) (by omega), pk_div (by omega) (by omega) (by omega), n6, nI_add, nI_1]
            obtain ⟨y1, y2, y3⟩ := nd_rev (n := n) (m := m) (k := l) (by omega)
            rw [nI_clamp (by omega), nI_clamp (by omega)]
            refine pk_le (m * n) l (fun q => by omega) (fun _ => ⟨nI_ne0 (by omega) (by omega), nI_ne0 (by omega) (by omega), pk_in (36 * s + f + l) 144 (by omega), pk_in (6 * (l / n) + l % n) 36 (by omega), ih _ (fun p q hp hq => ?_)⟩)
            rw [upd_at]
            by_cases e : 6 * p + q = 6 * (l / n) + l % n
            · have ep : p = l / n := by omega
              have eq : q = l % n := by omega
              rw [if_pos e, if_pos (by rw [ep, eq, y3]; omega), ep, eq, y3]
            · rw [if_neg e, hw' p q hp hq]
              by_cases c : q < n ∧ n * p + q < l
              · rw [if_pos c, if_pos (by omega)]
              · rw [if_neg c, if_neg (fun z => ?_)]
                have z2 : n * p + q = l := by omega
                have z3 := nd_of z.1 z2
                omega
        · show p_X5_weights_80 _ _ _ _ _ _ _ _ _ _ _ _ _ _
          unfold p_X5_weights_80
          rw [pk_mul, nI_add, nI_1, nI_clamp (by omega)]
          have hin : vp_in (nI (36 * s + f + l)) 144 := pk_in (36 * s + f + l) 144 (by omega)
          refine pk_le (m * n) l (fun q => by omega) (fun _ => ⟨hin, m_inI (a := 0) (b := 20) (fun q => z1 ⟨hin, ih _ ⟨fun l' hl' => ?_, by rw [hx.2]; rfl⟩⟩) (fun q => z0 (p0 (fun z => q (z l hl))))⟩)
          by_cases e : l' = l
          · subst e; exact q
          · exact hx.1 l' (by omega)
      rw [nI_clamp (by omega)]
      refine ⟨hs4, x_areW (F := fun l => it (36 * s + f + l)) (by omega) hF (fun good => z1 ?_) (fun l hl bad => z0 (hmod _ (fun good => absurd (good l hl) bad) (fun _ => fin_eq rfl (hK _ _ h))))⟩
      refine x_take hm.2 hn.2 (by omega) (fun C' hC => x_total hm.2 hn.2 (hmod _ (fun _ we' hwe => fin_eq ?_ (hK _ _ ⟨m, n, hm, hn, rfl, rfl, rfl, rfl, fun p q hp hq => ?_, fun p q hp hq => ?_, hPa⟩)) (fun bad => absurd good bad)))
      · rw [hcm]
        refine sumI_congr _ (fun l hl => ?_)
        obtain ⟨y1, y2, y3⟩ := nd_rev (n := n) (m := m) (k := l) (by omega)
        rw [hC _ _ (by omega) (by omega), if_pos ⟨y2, y1⟩, y3, hF l hl, x3264]
      · rw [hwe p q hp hq, hC p q hp hq]
        by_cases c : q < n ∧ p < m
        · rw [if_pos c, if_pos c, hF _ (by rw [← hcm]; exact nd_lt c.2 c.1), x3264]
        · rw [if_neg c, if_neg c]; exact hw p q hp hq
      · rw [hC p q hp hq]
        by_cases c : q < n ∧ p < m
        · have hl : n * p + q < m * n := by rw [← hcm]; exact nd_lt c.2 c.1
          rw [if_pos c, hF _ hl, x3264]
          obtain ⟨g1, g2⟩ := good _ hl
          obtain ⟨a, ha, e⟩ := n_of_le (show (20 : Int32) = nI 20 from rfl) (by decide) g1 g2
          exact ⟨a, ha, e⟩
        · rw [if_neg c]; exact hb p q hp hq
