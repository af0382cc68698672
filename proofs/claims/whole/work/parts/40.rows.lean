/-! a row that takes letters, plainly -/
def fg (f : Nat → Nat) (x : Nat) : Nat → Nat
  | 0 => 0
  | n + 1 => if fg f x n < n then fg f x n else (if f n ≤ x then n + 1 else n)
theorem fg_s (f : Nat → Nat) (x n : Nat) : fg f x (n + 1) = if fg f x n < n then fg f x n else (if f n ≤ x then n + 1 else n) := rfl
theorem fg_spec (f : Nat → Nat) (x : Nat) : ∀ n, fg f x n ≤ n ∧ (∀ j, j < fg f x n → f j ≤ x) ∧ (fg f x n < n → x < f (fg f x n))
  | 0 => ⟨Nat.le_refl 0, fun j hj => absurd hj (Nat.not_lt_zero j), fun h => absurd h (Nat.lt_irrefl 0)⟩
  | n + 1 => by
    obtain ⟨h1, h2, h3⟩ := fg_spec f x n
    rw [fg_s]
    by_cases c : fg f x n < n
    · rw [if_pos c]; exact ⟨by omega, h2, fun _ => h3 c⟩
    · rw [if_neg c]
      have e : fg f x n = n := by omega
      rw [e] at h2
      by_cases d : f n ≤ x
      · rw [if_pos d]
        refine ⟨by omega, fun j hj => ?_, fun q => by omega⟩
        by_cases ej : j = n
        · subst ej; exact d
        · exact h2 j (by omega)
      · rw [if_neg d]; exact ⟨by omega, h2, fun _ => by omega⟩
theorem fg_uni {f : Nat → Nat} {x n c : Nat} (h1 : c ≤ n) (h2 : ∀ j, j < c → f j ≤ x) (h3 : c < n → x < f c) : c = fg f x n := by
  obtain ⟨g1, g2, g3⟩ := fg_spec f x n
  rcases Nat.lt_trichotomy c (fg f x n) with q | q | q
  · have := g2 c q
    have := h3 (by omega)
    omega
  · exact q
  · have := h2 _ q
    have := g3 (by omega)
    omega
theorem fg_congr {f g : Nat → Nat} {x : Nat} : ∀ n, (∀ j, j < n → f j = g j) → fg f x n = fg g x n
  | 0, _ => rfl
  | n + 1, h => by rw [fg_s, fg_s, fg_congr n (fun j hj => h j (by omega)), h n (by omega)]
/-- the row behind t letters (a letter 0 is none) -/
def rwT (w : Nat → Nat) : Nat → Nat × (Nat → Nat)
  | 0 => (0, fun _ => 0)
  | t + 1 => if w t = 0 then rwT w t else
    (if fg (rwT w t).2 (w t) (rwT w t).1 = (rwT w t).1 then (rwT w t).1 + 1 else (rwT w t).1, fun j => if j = fg (rwT w t).2 (w t) (rwT w t).1 then w t else (rwT w t).2 j)
def rL (w : Nat → Nat) (t : Nat) : Nat := (rwT w t).1
def rF (w : Nat → Nat) (t : Nat) : Nat → Nat := (rwT w t).2
def cw (w : Nat → Nat) (t : Nat) : Nat := fg (rF w t) (w t) (rL w t)
def bw (w : Nat → Nat) (t : Nat) : Nat := if w t = 0 then 0 else if cw w t < rL w t then rF w t (cw w t) else 0
/-- when each place came -/
def qF (w : Nat → Nat) : Nat → Nat → Nat
  | 0 => fun _ => 0
  | t + 1 => if w t = 0 then qF w t else if cw w t < rL w t then qF w t else fun j => if j = cw w t then t + 1 else qF w t j
def BB (w : Nat → Nat) : Nat → Nat → Nat
  | 0 => w
  | r + 1 => bw (BB w r)
theorem cw_le (w : Nat → Nat) (t : Nat) : cw w t ≤ rL w t := (fg_spec _ _ _).1
theorem rw_0 {w : Nat → Nat} {t : Nat} (h : w t = 0) : rL w (t + 1) = rL w t ∧ rF w (t + 1) = rF w t ∧ bw w t = 0 ∧ qF w (t + 1) = qF w t := by
  have e : rwT w (t + 1) = rwT w t := if_pos h
  exact ⟨by unfold rL; rw [e], by unfold rF; rw [e], if_pos h, if_pos h⟩
theorem rw_F {w : Nat → Nat} {t : Nat} (h : w t ≠ 0) (j : Nat) : rF w (t + 1) j = if j = cw w t then w t else rF w t j := by
  have e : rwT w (t + 1) = _ := if_neg h
  unfold rF
  rw [e]
  rfl
theorem rw_L {w : Nat → Nat} {t : Nat} (h : w t ≠ 0) : rL w (t + 1) = if cw w t = rL w t then rL w t + 1 else rL w t := by
  have e : rwT w (t + 1) = _ := if_neg h
  unfold rL
  rw [e]
  rfl
theorem rw_bump {w : Nat → Nat} {t : Nat} (h : w t ≠ 0) (c : cw w t < rL w t) : rL w (t + 1) = rL w t ∧ bw w t = rF w t (cw w t) ∧ qF w (t + 1) = qF w t := by
  refine ⟨by rw [rw_L h, if_neg (by omega)], ?_, ?_⟩
  · unfold bw; rw [if_neg h, if_pos c]
  · show (if w t = 0 then _ else _) = _
    rw [if_neg h, if_pos c]
theorem rw_grow {w : Nat → Nat} {t : Nat} (h : w t ≠ 0) (c : ¬ cw w t < rL w t) : rL w (t + 1) = rL w t + 1 ∧ bw w t = 0 ∧ (∀ j, qF w (t + 1) j = if j = cw w t then t + 1 else qF w t j) ∧ cw w t = rL w t := by
  have e : cw w t = rL w t := by have := cw_le w t; omega
  refine ⟨by rw [rw_L h, if_pos e], ?_, fun j => ?_, e⟩
  · unfold bw; rw [if_neg h, if_neg c]
  · have e2 : qF w (t + 1) = fun j => if j = cw w t then t + 1 else qF w t j := by
      show (if w t = 0 then _ else _) = _
      rw [if_neg h, if_neg c]
    rw [e2]
theorem bw_ne {w : Nat → Nat} {t : Nat} (h : bw w t ≠ 0) : w t ≠ 0 ∧ cw w t < rL w t ∧ bw w t = rF w t (cw w t) ∧ w t < bw w t := by
  have h1 : w t ≠ 0 := fun q => h (rw_0 q).2.2.1
  by_cases c : cw w t < rL w t
  · have e := (rw_bump h1 c).2.1
    refine ⟨h1, c, e, ?_⟩
    rw [e]
    exact (fg_spec _ _ _).2.2 c
  · exact absurd (rw_grow h1 c).2.1 h
theorem rL_le (w : Nat → Nat) : ∀ t, rL w t ≤ t
  | 0 => Nat.le_refl 0
  | t + 1 => by
    have := rL_le w t
    by_cases h : w t = 0
    · rw [(rw_0 h).1]; omega
    · rw [rw_L h]; split <;> omega
theorem rL_mono (w : Nat → Nat) (t : Nat) : rL w t ≤ rL w (t + 1) := by
  by_cases h : w t = 0
  · rw [(rw_0 h).1]; exact Nat.le_refl _
  · rw [rw_L h]; split <;> omega
/-- all letters in bounds: so are the row's numbers, and what it bumps is greater -/
theorem rw_in {w : Nat → Nat} {a b : Nat} (h : ∀ t, w t = 0 ∨ (a ≤ w t ∧ w t ≤ b)) : ∀ t j, j < rL w t → a ≤ rF w t j ∧ rF w t j ≤ b
  | 0, j, hj => absurd hj (Nat.not_lt_zero j)
  | t + 1, j, hj => by
    by_cases c : w t = 0
    · obtain ⟨e1, e2, -⟩ := rw_0 c
      rw [e1] at hj
      rw [e2]
      exact rw_in h t j hj
    · rw [rw_F c]
      rw [rw_L c] at hj
      have h1 := h t
      by_cases d : j = cw w t
      · rw [if_pos d]; omega
      · rw [if_neg d]
        refine rw_in h t j ?_
        have := cw_le w t
        by_cases e : cw w t = rL w t
        · rw [if_pos e] at hj; omega
        · rw [if_neg e] at hj; exact hj
theorem bw_in {w : Nat → Nat} {a b : Nat} (h : ∀ t, w t = 0 ∨ (a ≤ w t ∧ w t ≤ b)) (t : Nat) : bw w t = 0 ∨ (a + 1 ≤ bw w t ∧ bw w t ≤ b) := by
  by_cases c : bw w t = 0
  · exact Or.inl c
  · obtain ⟨h1, h2, h3, h4⟩ := bw_ne c
    have := rw_in h t _ h2
    have := h t
    rw [← h3] at *
    omega
theorem BB_in {w : Nat → Nat} (h : ∀ t, w t = 0 ∨ (1 ≤ w t ∧ w t ≤ 9)) : ∀ r t, BB w r t = 0 ∨ (r + 1 ≤ BB w r t ∧ BB w r t ≤ 9)
  | 0, t => h t
  | r + 1, t => bw_in (BB_in h r) t
theorem rw_congr {w v : Nat → Nat} : ∀ k, (∀ t, t < k → w t = v t) → rwT w k = rwT v k
  | 0, _ => rfl
  | k + 1, h => by
    show (if w k = 0 then _ else _) = (if v k = 0 then _ else _)
    rw [rw_congr k (fun t ht => h t (by omega)), h k (by omega)]
theorem bw_congr {w v : Nat → Nat} {k : Nat} (h : ∀ t, t < k → w t = v t) (t : Nat) (ht : t < k) : bw w t = bw v t := by
  unfold bw cw rL rF
  rw [rw_congr t (fun s hs => h s (by omega)), h t ht]
theorem qF_congr {w v : Nat → Nat} : ∀ k, (∀ t, t < k → w t = v t) → qF w k = qF v k
  | 0, _ => rfl
  | k + 1, h => by
    show (if w k = 0 then _ else _) = (if v k = 0 then _ else _)
    unfold cw rL rF
    rw [qF_congr k (fun t ht => h t (by omega)), rw_congr k (fun t ht => h t (by omega)), h k (by omega)]
theorem BB_congr {w v : Nat → Nat} {k : Nat} (h : ∀ t, t < k → w t = v t) : ∀ r t, t < k → BB w r t = BB v r t
  | 0, t, ht => h t ht
  | r + 1, t, ht => bw_congr (BB_congr h r) t ht
theorem BB_z {w : Nat → Nat} {t r : Nat} (h : BB w r t = 0) : ∀ s, BB w (r + s) t = 0
  | 0 => h
  | s + 1 => by
    show bw (BB w (r + s)) t = 0
    exact (rw_0 (BB_z h s)).2.2.1
theorem BB_z' {w : Nat → Nat} {t r s : Nat} (h : BB w r t = 0) (hs : r ≤ s) : BB w s t = 0 := by
  have := BB_z h (s - r)
  rwa [show r + (s - r) = s by omega] at this
/-- the word so far -/
def isW (w : Nat → Nat) (k : Nat) : Prop := ∀ t, (t < k → 1 ≤ w t ∧ w t ≤ 9) ∧ (k ≤ t → w t = 0)
theorem isW.all {w : Nat → Nat} {k : Nat} (h : isW w k) (t : Nat) : w t = 0 ∨ (1 ≤ w t ∧ w t ≤ 9) := by
  rcases Nat.lt_or_ge t k with q | q
  · exact Or.inr ((h t).1 q)
  · exact Or.inl ((h t).2 q)
theorem isW.next {w : Nat → Nat} {k x : Nat} (h : isW w k) (h1 : 1 ≤ x) (h9 : x ≤ 9) : isW (fun t => if t = k then x else w t) (k + 1) := fun t => by
  dsimp only
  by_cases e : t = k
  · rw [if_pos e]; exact ⟨fun _ => ⟨h1, h9⟩, fun q => by omega⟩
  · rw [if_neg e]; exact ⟨fun q => (h t).1 (by omega), fun q => (h t).2 (by omega)⟩
theorem isW_0 : isW (fun _ => 0) 0 := fun t => ⟨fun q => absurd q (Nat.not_lt_zero t), fun _ => rfl⟩
