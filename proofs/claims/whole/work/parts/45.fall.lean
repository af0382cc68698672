/-! longest: a row's length, and how many rows there are -/
def IsDP (ok : Nat → Nat → Prop) (D : Nat → Nat) (k : Nat) : Prop := 1 ≤ D k ∧ (∀ i, i < k → ok i k → D i + 1 ≤ D k) ∧ (D k = 1 ∨ ∃ i, i < k ∧ ok i k ∧ D k = D i + 1)
theorem IsDP.congr {ok : Nat → Nat → Prop} {D E : Nat → Nat} {k : Nat} (h : IsDP ok D k) (e : ∀ j, j ≤ k → D j = E j) : IsDP ok E k := by
  obtain ⟨h1, h2, h3⟩ := h
  rw [e k (Nat.le_refl k)] at h1 h3
  refine ⟨h1, fun i hi ho => ?_, ?_⟩
  · have := h2 i hi ho
    rw [e i (by omega), e k (Nat.le_refl k)] at this
    exact this
  · rcases h3 with h3 | ⟨i, hi, ho, h3⟩
    · exact Or.inl h3
    · rw [e i (by omega)] at h3; exact Or.inr ⟨i, hi, ho, h3⟩
theorem rw_sorted (w : Nat → Nat) : ∀ t c d, c ≤ d → d < rL w t → rF w t c ≤ rF w t d
  | 0, c, d, _, hd => absurd hd (Nat.not_lt_zero d)
  | t + 1, c, d, hcd, hd => by
    by_cases h : w t = 0
    · obtain ⟨e1, e2, -⟩ := rw_0 h
      rw [e1] at hd
      rw [e2]
      exact rw_sorted w t c d hcd hd
    · obtain ⟨g1, g2, g3⟩ := fg_spec (rF w t) (w t) (rL w t)
      have ih := rw_sorted w t
      rw [rw_L h] at hd
      rw [rw_F h, rw_F h]
      have hp : cw w t = fg (rF w t) (w t) (rL w t) := rfl
      rw [← hp] at g1 g2 g3
      have hd2 : d ≠ cw w t → d < rL w t := fun q => by
        by_cases e : cw w t = rL w t
        · rw [if_pos e] at hd; omega
        · rw [if_neg e] at hd; exact hd
      by_cases e1 : c = cw w t
      · rw [if_pos e1]
        by_cases e2 : d = cw w t
        · rw [if_pos e2]; exact Nat.le_refl _
        · rw [if_neg e2]
          have := hd2 e2
          have := g3 (by omega)
          have := ih (cw w t) d (by omega) (hd2 e2)
          omega
      · rw [if_neg e1]
        by_cases e2 : d = cw w t
        · rw [if_pos e2]; exact g2 c (by omega)
        · rw [if_neg e2]; exact ih c d hcd (hd2 e2)
/-- the first row is as long as what does not fall -/
theorem dp_row {w D : Nat → Nat} {k : Nat} (hw : ∀ t, t < k → w t ≠ 0) (hD : ∀ j, j < k → IsDP (fun i j => w i ≤ w j) D j) : ∀ t, t ≤ k → (∀ i, i < t → D i ≤ rL w t ∧ rF w t (D i - 1) ≤ w i) ∧ ∀ c, c < rL w t → ∃ i, i < t ∧ D i = c + 1 ∧ w i = rF w t c
  | 0, _ => ⟨fun i hi => absurd hi (Nat.not_lt_zero i), fun c hc => absurd hc (Nat.not_lt_zero c)⟩
  | t + 1, ht => by
    obtain ⟨s1, s2⟩ := dp_row hw hD t (by omega)
    have h := hw t (by omega)
    obtain ⟨g1, g2, g3⟩ := fg_spec (rF w t) (w t) (rL w t)
    have hp : cw w t = fg (rF w t) (w t) (rL w t) := rfl
    rw [← hp] at g1 g2 g3
    obtain ⟨d1, d2, d3⟩ := hD t (by omega)
    have hDt : D t = cw w t + 1 := by
      have hle : D t ≤ cw w t + 1 := by
        rcases d3 with d3 | ⟨i, hi, ho, d3⟩
        · omega
        · have ho : w i ≤ w t := ho
          obtain ⟨a1, a2⟩ := s1 i hi
          have hDi := (hD i (by omega)).1
          rcases Nat.lt_or_ge (D i - 1) (cw w t) with q | q
          · omega
          · have := rw_sorted w t (cw w t) (D i - 1) q (by omega)
            have := g3 (by omega)
            omega
      have hge : cw w t + 1 ≤ D t := by
        rcases Nat.eq_zero_or_pos (cw w t) with q | q
        · omega
        · obtain ⟨i, hi, e1, e2⟩ := s2 (cw w t - 1) (by omega)
          have := g2 (cw w t - 1) (by omega)
          have := d2 i hi (show w i ≤ w t by omega)
          omega
      omega
    have hL := rw_L h
    refine ⟨fun i hi => ?_, fun c hc => ?_⟩
    · rw [hL, rw_F h]
      by_cases e : i = t
      · subst e
        rw [hDt, Nat.add_sub_cancel]
        refine ⟨by split <;> omega, ?_⟩
        rw [if_pos rfl]; exact Nat.le_refl _
      · obtain ⟨a1, a2⟩ := s1 i (by omega)
        have hDi := (hD i (by omega)).1
        refine ⟨by split <;> omega, ?_⟩
        by_cases q : D i - 1 = cw w t
        · rw [if_pos q]
          rw [q] at a2
          have := g3 (by omega)
          omega
        · rw [if_neg q]; exact a2
    · rw [rw_F h]
      by_cases e : c = cw w t
      · rw [if_pos e]; exact ⟨t, by omega, by omega, rfl⟩
      · rw [if_neg e]
        rw [hL] at hc
        obtain ⟨i, hi, e1, e2⟩ := s2 c (by
          by_cases z : cw w t = rL w t
          · rw [if_pos z] at hc; omega
          · rw [if_neg z] at hc; exact hc)
        exact ⟨i, by omega, e1, e2⟩
theorem dp_row_len {w D : Nat → Nat} {k m : Nat} (hw : ∀ t, t < k → w t ≠ 0) (hD : ∀ j, j < k → IsDP (fun i j => w i ≤ w j) D j) (h1 : ∀ j, j < k → D j ≤ m) (h2 : (m = 0 ∧ k = 0) ∨ ∃ j, j < k ∧ D j = m) : rL w k = m := by
  obtain ⟨s1, s2⟩ := dp_row hw hD k (Nat.le_refl k)
  have hle : m ≤ rL w k := by
    rcases h2 with h2 | ⟨j, hj, h2⟩
    · omega
    · have := (s1 j hj).1; omega
  have hge : rL w k ≤ m := by
    rcases Nat.eq_zero_or_pos (rL w k) with q | q
    · omega
    · obtain ⟨i, hi, e, -⟩ := s2 (rL w k - 1) (by omega)
      have := h1 i hi
      omega
  omega
/-- a number in the row was a letter -/
theorem rw_from (w : Nat → Nat) : ∀ t j, j < rL w t → ∃ s, s < t ∧ w s = rF w t j
  | 0, j, hj => absurd hj (Nat.not_lt_zero j)
  | t + 1, j, hj => by
    by_cases h : w t = 0
    · obtain ⟨e1, e2, -⟩ := rw_0 h
      rw [e1] at hj
      rw [e2]
      obtain ⟨s, hs, e⟩ := rw_from w t j hj
      exact ⟨s, by omega, e⟩
    · rw [rw_L h] at hj
      rw [rw_F h]
      by_cases e : j = cw w t
      · rw [if_pos e]; exact ⟨t, by omega, rfl⟩
      · rw [if_neg e]
        obtain ⟨s, hs, e3⟩ := rw_from w t j (by
          have := cw_le w t
          by_cases z : cw w t = rL w t
          · rw [if_pos z] at hj; omega
          · rw [if_neg z] at hj; exact hj)
        exact ⟨s, by omega, e3⟩
/-- between what bumps and what it bumped: only letters that came later -/
theorem rw_gap {w : Nat → Nat} {u : Nat} (hb : bw w u ≠ 0) : ∀ d j, j < rL w (u + 1 + d) → w u < rF w (u + 1 + d) j → rF w (u + 1 + d) j < bw w u → ∃ s, u < s ∧ s < u + 1 + d ∧ w s = rF w (u + 1 + d) j
  | 0, j, hj, h1, h2 => by
    obtain ⟨b1, b2, b3, b4⟩ := bw_ne hb
    obtain ⟨g1, g2, g3⟩ := fg_spec (rF w u) (w u) (rL w u)
    have hp : cw w u = fg (rF w u) (w u) (rL w u) := rfl
    rw [← hp] at g1 g2 g3
    change j < rL w (u + 1) at hj
    change w u < rF w (u + 1) j at h1
    change rF w (u + 1) j < bw w u at h2
    rw [(rw_bump b1 b2).1] at hj
    rw [rw_F b1] at h1 h2
    by_cases e : j = cw w u
    · rw [if_pos e] at h1; omega
    · rw [if_neg e] at h1 h2
      rcases Nat.lt_or_ge j (cw w u) with q | q
      · have := g2 j q; omega
      · have := rw_sorted w u (cw w u) j q hj
        omega
  | d + 1, j, hj, h1, h2 => by
    have et : u + 1 + (d + 1) = (u + 1 + d) + 1 := rfl
    rw [et] at hj h1 h2 ⊢
    by_cases h : w (u + 1 + d) = 0
    · obtain ⟨e1, e2, -⟩ := rw_0 h
      rw [e1] at hj
      rw [e2] at h1 h2 ⊢
      obtain ⟨s, a1, a2, a3⟩ := rw_gap hb d j hj h1 h2
      exact ⟨s, a1, by omega, a3⟩
    · rw [rw_L h] at hj
      rw [rw_F h] at h1 h2 ⊢
      by_cases e : j = cw w (u + 1 + d)
      · rw [if_pos e]; exact ⟨u + 1 + d, by omega, by omega, rfl⟩
      · rw [if_neg e] at h1 h2 ⊢
        obtain ⟨s, a1, a2, a3⟩ := rw_gap hb d j (by
          have := cw_le w (u + 1 + d)
          by_cases z : cw w (u + 1 + d) = rL w (u + 1 + d)
          · rw [if_pos z] at hj; omega
          · rw [if_neg z] at hj; exact hj) h1 h2
        exact ⟨s, a1, by omega, a3⟩
/-- where a letter stood: it stands, or one between was bumped -/
theorem rw_stay {w : Nat → Nat} {u z : Nat} (hu : w u ≠ 0) (hz : z < w u) : ∀ d, (cw w u < rL w (u + 1 + d) ∧ z < rF w (u + 1 + d) (cw w u) ∧ rF w (u + 1 + d) (cw w u) ≤ w u) ∨ ∃ b, u < b ∧ b < u + 1 + d ∧ bw w b ≠ 0 ∧ z < bw w b ∧ bw w b ≤ w u
  | 0 => by
    left
    change cw w u < rL w (u + 1) ∧ z < rF w (u + 1) (cw w u) ∧ rF w (u + 1) (cw w u) ≤ w u
    rw [rw_F hu, if_pos rfl, rw_L hu]
    have := cw_le w u
    exact ⟨by split <;> omega, hz, Nat.le_refl _⟩
  | d + 1 => by
    have et : u + 1 + (d + 1) = (u + 1 + d) + 1 := rfl
    rw [et]
    rcases rw_stay hu hz d with ⟨a1, a2, a3⟩ | ⟨b, b1, b2, b3⟩
    · by_cases h : w (u + 1 + d) = 0
      · obtain ⟨e1, e2, -⟩ := rw_0 h
        rw [e1, e2]; exact Or.inl ⟨a1, a2, a3⟩
      · by_cases e : cw w u = cw w (u + 1 + d)
        · right
          have e3 := (rw_bump h (by omega)).2.1
          rw [← e] at e3
          exact ⟨u + 1 + d, by omega, by omega, by omega, by omega, by omega⟩
        · left
          rw [rw_F h, if_neg e]
          have := rL_mono w (u + 1 + d)
          exact ⟨by omega, a2, a3⟩
    · exact Or.inr ⟨b, b1, by omega, b3⟩
theorem rw_between {w : Nat → Nat} {u t : Nat} (hut : u < t) (hlt : w t < w u) (ht : w t ≠ 0) : ∃ b, u < b ∧ b ≤ t ∧ bw w b ≠ 0 ∧ w t < bw w b ∧ bw w b ≤ w u := by
  have key := rw_stay (w := w) (u := u) (z := w t) (by omega) hlt (t - (u + 1))
  rw [show u + 1 + (t - (u + 1)) = t by omega] at key
  rcases key with ⟨a1, a2, a3⟩ | ⟨b, b1, b2, b3⟩
  · obtain ⟨g1, g2, g3⟩ := fg_spec (rF w t) (w t) (rL w t)
    have hp : cw w t = fg (rF w t) (w t) (rL w t) := rfl
    rw [← hp] at g1 g2 g3
    have hc : cw w t ≤ cw w u := by
      rcases Nat.lt_or_ge (cw w u) (cw w t) with q | q
      · have := g2 _ q; omega
      · exact q
    have e := (rw_bump ht (by omega)).2.1
    have := rw_sorted w t _ _ hc a1
    have := g3 (by omega)
    exact ⟨t, hut, Nat.le_refl t, by omega, by omega, by omega⟩
  · exact ⟨b, b1, by omega, b3⟩
def okF (w : Nat → Nat) : Nat → Nat → Prop := fun i j => w j < w i
def LD (w : Nat → Nat) (k m : Nat) : Prop := ∃ D : Nat → Nat, (∀ j, j < k → IsDP (okF w) D j) ∧ (∀ t, t < k → w t ≠ 0 → D t ≤ m) ∧ (m = 0 ∨ ∃ t, t < k ∧ w t ≠ 0 ∧ D t = m)
theorem ld_up {w D E : Nat → Nat} {k : Nat} (hD : ∀ j, j < k → IsDP (okF w) D j) (hE : ∀ j, j < k → IsDP (okF (bw w)) E j) : ∀ n t, t < n → t < k → bw w t ≠ 0 → ∃ u, u < t ∧ bw w t ≤ w u ∧ E t ≤ D u
  | 0, t, h, _, _ => absurd h (Nat.not_lt_zero t)
  | n + 1, t, h, hk, hb => by
    obtain ⟨b1, b2, b3, b4⟩ := bw_ne hb
    rcases (hE t hk).2.2 with e | ⟨i, hi, ho, e⟩
    · obtain ⟨s, hs, es⟩ := rw_from w t _ b2
      have := (hD s (by omega)).1
      exact ⟨s, hs, by omega, by omega⟩
    · have ho : bw w t < bw w i := ho
      obtain ⟨u, hu, hu2, hu3⟩ := ld_up hD hE n i (by omega) (by omega) (by omega)
      obtain ⟨c1, c2, c3, c4⟩ := bw_ne (show bw w i ≠ 0 by omega)
      have hDi := (hD i (by omega)).2.1 u hu (show w i < w u by omega)
      rcases Nat.lt_or_ge (w i) (bw w t) with q | q
      · have key := rw_gap (w := w) (u := i) (by omega) (t - (i + 1)) (cw w t)
        rw [show i + 1 + (t - (i + 1)) = t by omega] at key
        obtain ⟨s, a1, a2, a3⟩ := key b2 (by omega) (by omega)
        have := (hD s (by omega)).2.1 u (by omega) (show w s < w u by omega)
        exact ⟨s, a2, by omega, by omega⟩
      · exact ⟨i, hi, q, by omega⟩
theorem ld_down {w D E : Nat → Nat} {k : Nat} (hD : ∀ j, j < k → IsDP (okF w) D j) (hE : ∀ j, j < k → IsDP (okF (bw w)) E j) : ∀ n t, t < n → t < k → w t ≠ 0 → 2 ≤ D t → ∃ b, b ≤ t ∧ bw w b ≠ 0 ∧ w t < bw w b ∧ D t ≤ E b + 1
  | 0, t, h, _, _, _ => absurd h (Nat.not_lt_zero t)
  | n + 1, t, h, hk, hb, h2 => by
    rcases (hD t hk).2.2 with e | ⟨i, hi, ho, e⟩
    · omega
    · have ho : w t < w i := ho
      obtain ⟨b, a1, a2, a3, a4, a5⟩ := rw_between hi ho hb
      rcases Nat.lt_or_ge (D i) 2 with q | q
      · have := (hE b (by omega)).1
        exact ⟨b, a2, a3, a4, by omega⟩
      · obtain ⟨c, c1, c2, c3, c4⟩ := ld_down hD hE n i (by omega) (by omega) (by omega) q
        have := (hE b (by omega)).2.1 c (by omega) (show bw w b < bw w c by omega)
        exact ⟨b, a2, a3, a4, by omega⟩
theorem LD_step {w : Nat → Nat} {k m m' : Nat} (h : LD w k m) (h' : LD (bw w) k m') (hx : ∃ t, t < k ∧ w t ≠ 0) : m = m' + 1 := by
  obtain ⟨D, d1, d2, d3⟩ := h
  obtain ⟨E, e1, e2, e3⟩ := h'
  obtain ⟨x, hx1, hx2⟩ := hx
  have hge : m' + 1 ≤ m := by
    rcases e3 with e3 | ⟨t, ht, hb, e3⟩
    · have := d2 x hx1 hx2
      have := (d1 x hx1).1
      omega
    · obtain ⟨u, hu, hu2, hu3⟩ := ld_up d1 e1 (t + 1) t (by omega) ht hb
      obtain ⟨b1, b2, b3, b4⟩ := bw_ne hb
      have := (d1 t ht).2.1 u hu (show w t < w u by omega)
      have := d2 t ht b1
      omega
  have hle : m ≤ m' + 1 := by
    rcases d3 with d3 | ⟨t, ht, hb, d3⟩
    · omega
    · rcases Nat.lt_or_ge (D t) 2 with q | q
      · omega
      · obtain ⟨b, b1, b2, b3, b4⟩ := ld_down d1 e1 (t + 1) t (by omega) ht hb q
        have := e2 b (by omega) b2
        omega
  omega
theorem dp_one (ok : Nat → Nat → Prop) (D : Nat → Nat) (k : Nat) : ∀ n, ∃ v, 1 ≤ v ∧ (∀ i, i < n → ok i k → D i + 1 ≤ v) ∧ (v = 1 ∨ ∃ i, i < n ∧ ok i k ∧ v = D i + 1)
  | 0 => ⟨1, Nat.le_refl 1, fun i hi => absurd hi (Nat.not_lt_zero i), Or.inl rfl⟩
  | n + 1 => by
    obtain ⟨v, v1, v2, v3⟩ := dp_one ok D k n
    by_cases h : ok n k ∧ v ≤ D n + 1
    · refine ⟨D n + 1, by omega, fun i hi ho => ?_, Or.inr ⟨n, by omega, h.1, rfl⟩⟩
      by_cases e : i = n
      · subst e; exact Nat.le_refl _
      · have := v2 i (by omega) ho; omega
    · refine ⟨v, v1, fun i hi ho => ?_, ?_⟩
      · by_cases e : i = n
        · subst e
          rcases Nat.lt_or_ge (D i + 1) v with q | q
          · omega
          · exact absurd ⟨ho, q⟩ h
        · exact v2 i (by omega) ho
      · rcases v3 with v3 | ⟨i, hi, ho, v3⟩
        · exact Or.inl v3
        · exact Or.inr ⟨i, by omega, ho, v3⟩
theorem dp_ex (ok : Nat → Nat → Prop) : ∀ k, ∃ D : Nat → Nat, ∀ j, j < k → IsDP ok D j
  | 0 => ⟨fun _ => 0, fun j hj => absurd hj (Nat.not_lt_zero j)⟩
  | k + 1 => by
    obtain ⟨D, hD⟩ := dp_ex ok k
    obtain ⟨v, v1, v2, v3⟩ := dp_one ok D k k
    refine ⟨fun j => if j = k then v else D j, fun j hj => ?_⟩
    by_cases e : j = k
    · subst e
      refine ⟨by dsimp only; rw [if_pos rfl]; exact v1, fun i hi ho => ?_, ?_⟩
      · dsimp only
        rw [if_pos rfl, if_neg (by omega)]; exact v2 i hi ho
      · dsimp only
        rw [if_pos rfl]
        rcases v3 with v3 | ⟨i, hi, ho, v3⟩
        · exact Or.inl v3
        · exact Or.inr ⟨i, hi, ho, by rw [if_neg (by omega)]; exact v3⟩
    · exact (hD j (by omega)).congr (fun i hi => by rw [if_neg (by omega)])
theorem LD_ex (w : Nat → Nat) (k : Nat) : ∃ m, LD w k m := by
  obtain ⟨D, hD⟩ := dp_ex (okF w) k
  have mx : ∀ n, ∃ m, (∀ t, t < n → w t ≠ 0 → D t ≤ m) ∧ (m = 0 ∨ ∃ t, t < n ∧ w t ≠ 0 ∧ D t = m) := by
    intro n
    induction n with
    | zero => exact ⟨0, fun t ht => absurd ht (Nat.not_lt_zero t), Or.inl rfl⟩
    | succ n ih =>
      obtain ⟨m, m1, m2⟩ := ih
      by_cases h : w n ≠ 0 ∧ m ≤ D n
      · refine ⟨D n, fun t ht hn => ?_, Or.inr ⟨n, by omega, h.1, rfl⟩⟩
        by_cases e : t = n
        · subst e; exact Nat.le_refl _
        · have := m1 t (by omega) hn; omega
      · refine ⟨m, fun t ht hn => ?_, ?_⟩
        · by_cases e : t = n
          · subst e
            rcases Nat.lt_or_ge (D t) m with q | q
            · omega
            · exact absurd ⟨hn, q⟩ h
          · exact m1 t (by omega) hn
        · rcases m2 with m2 | ⟨t, ht, hn, m2⟩
          · exact Or.inl m2
          · exact Or.inr ⟨t, by omega, hn, m2⟩
  obtain ⟨m, m1, m2⟩ := mx k
  exact ⟨m, D, hD, m1, m2⟩
theorem rL_pos {w : Nat → Nat} : ∀ k, 0 < rL w k ↔ ∃ t, t < k ∧ w t ≠ 0
  | 0 => ⟨fun h => absurd h (Nat.lt_irrefl 0), fun ⟨t, ht, _⟩ => absurd ht (Nat.not_lt_zero t)⟩
  | k + 1 => by
    have ih := rL_pos (w := w) k
    have hm := rL_mono w k
    constructor
    · intro h
      by_cases c : w k = 0
      · rw [(rw_0 c).1] at h
        obtain ⟨t, ht, hn⟩ := ih.mp h
        exact ⟨t, by omega, hn⟩
      · exact ⟨k, by omega, c⟩
    · rintro ⟨t, ht, hn⟩
      by_cases e : t = k
      · subst e
        rw [rw_L hn]
        have := cw_le w t
        split <;> omega
      · have := ih.mpr ⟨t, by omega, hn⟩; omega
theorem LD_rows {w : Nat → Nat} {k n : Nat} (hw : ∀ t, w t = 0 ∨ (1 ≤ w t ∧ w t ≤ 9)) (hn : n ≤ 9) (h : ∀ r, r < 9 → (r < n ↔ 0 < rL (BB w r) k)) : ∀ d r m, r + d = 9 → LD (BB w r) k m → m = n - r
  | 0, r, m, e, ⟨D, d1, d2, d3⟩ => by
    rcases d3 with d3 | ⟨t, ht, hb, d3⟩
    · omega
    · have := BB_in hw r t
      omega
  | d + 1, r, m, e, hL => by
    by_cases q : r < n
    · obtain ⟨m', hm'⟩ := LD_ex (BB w (r + 1)) k
      have e1 := LD_rows hw hn h d (r + 1) m' (by omega) hm'
      have e2 := LD_step hL hm' ((rL_pos k).mp ((h r (by omega)).mp q))
      omega
    · obtain ⟨D, d1, d2, d3⟩ := hL
      rcases d3 with d3 | ⟨t, ht, hb, d3⟩
      · omega
      · exact absurd ((h r (by omega)).mpr ((rL_pos k).mpr ⟨t, ht, hb⟩)) q
