/-! reading a word out of two tableaux -/
def ll (f : Nat → Nat) (x : Nat) : Nat → Nat
  | 0 => 0
  | n + 1 => if f n < x then n else ll f x n
theorem ll_uni {f : Nat → Nat} {x p : Nat} : ∀ n, p < n → f p < x → (∀ j, p < j → j < n → x ≤ f j) → p = ll f x n
  | 0, h, _, _ => absurd h (Nat.not_lt_zero p)
  | n + 1, h, h1, h2 => by
    show p = if f n < x then n else ll f x n
    by_cases e : p = n
    · subst e; rw [if_pos h1]
    · have := h2 n (by omega) (by omega)
      rw [if_neg (by omega)]
      exact ll_uni n (by omega) h1 (fun j hj hj2 => h2 j hj (by omega))
theorem ll_spec {f : Nat → Nat} {x : Nat} : ∀ n c, c < n → f c < x → c ≤ ll f x n ∧ ll f x n < n ∧ f (ll f x n) < x ∧ ∀ j, ll f x n < j → j < n → x ≤ f j
  | 0, c, h, _ => absurd h (Nat.not_lt_zero c)
  | n + 1, c, h, h1 => by
    show c ≤ (if f n < x then n else ll f x n) ∧ (if f n < x then n else ll f x n) < n + 1 ∧ f (if f n < x then n else ll f x n) < x ∧ ∀ j, (if f n < x then n else ll f x n) < j → j < n + 1 → x ≤ f j
    by_cases q : f n < x
    · rw [if_pos q]; exact ⟨by omega, by omega, q, fun j h1 h2 => by omega⟩
    · rw [if_neg q]
      have hc : c < n := by
        rcases Nat.lt_or_ge c n with z | z
        · exact z
        · have : c = n := by omega
          subst this; exact absurd h1 q
      obtain ⟨a1, a2, a3, a4⟩ := ll_spec n c hc h1
      refine ⟨a1, by omega, a3, fun j hj hj2 => ?_⟩
      by_cases e : j = n
      · subst e; omega
      · exact a4 j hj (by omega)
def upE (l : Nat → Nat) : Nat → (Nat → Nat → Nat) → Nat → (Nat → Nat → Nat) × Nat
  | 0, E, x => (E, x)
  | i + 1, E, x => upE l i (fun a b => if a = i ∧ b = ll (E i) x (l i) then x else E a b) (E i (ll (E i) x (l i)))
def TB (l : Nat → Nat) (E : Nat → Nat → Nat) : Prop := (∀ r, r + 1 < 9 → l (r + 1) ≤ l r) ∧ (∀ r, r < 9 → ∀ c d, c ≤ d → d < l r → E r c ≤ E r d) ∧ (∀ r, r + 1 < 9 → ∀ c, c < l (r + 1) → E r c < E (r + 1) c) ∧ ∀ r, r < 9 → ∀ c, c < l r → 1 ≤ E r c ∧ E r c ≤ 9
def JJ (l : Nat → Nat) (i : Nat) (E : Nat → Nat → Nat) (x : Nat) : Prop := TB l E ∧ (1 ≤ x ∧ x ≤ 9) ∧ ∃ ci, (∀ c, ci ≤ c → c < l i → x < E i c) ∧ (0 < i → ci < l (i - 1) ∧ E (i - 1) ci < x)
theorem JJ.step {l : Nat → Nat} {i : Nat} {E : Nat → Nat → Nat} {x : Nat} (hi : i + 1 < 9) (h : JJ l (i + 1) E x) : (ll (E i) x (l i) < l i ∧ E i (ll (E i) x (l i)) < x ∧ (∀ j, ll (E i) x (l i) < j → j < l i → x ≤ E i j)) ∧ JJ l i (fun a b => if a = i ∧ b = ll (E i) x (l i) then x else E a b) (E i (ll (E i) x (l i))) := by
  obtain ⟨⟨t1, t2, t3, t4⟩, hx, ci, w1, w2⟩ := h
  obtain ⟨w3, w4⟩ := w2 (by omega)
  rw [Nat.add_sub_cancel] at w3 w4
  obtain ⟨a1, a2, a3, a4⟩ := ll_spec (l i) ci w3 w4
  generalize ll (E i) x (l i) = p at a1 a2 a3 a4
  refine ⟨⟨a2, a3, a4⟩, ⟨t1, fun r hr c d hcd hd => ?_, fun r hr c hc => ?_, fun r hr c hc => ?_⟩, t4 i (by omega) p a2, p, fun c hc hc2 => ?_, fun h0 => ?_⟩
  · dsimp only
    by_cases e1 : r = i ∧ c = p
    · rw [if_pos e1]
      obtain ⟨rfl, rfl⟩ := e1
      by_cases e2 : d = c
      · rw [if_pos ⟨rfl, e2⟩]; exact Nat.le_refl x
      · rw [if_neg (fun q => e2 q.2)]; exact a4 d (by omega) hd
    · rw [if_neg e1]
      by_cases e2 : r = i ∧ d = p
      · rw [if_pos e2]
        obtain ⟨rfl, rfl⟩ := e2
        have := t2 r hr c d hcd hd
        omega
      · rw [if_neg e2]; exact t2 r hr c d hcd hd
  · dsimp only
    by_cases e1 : r = i ∧ c = p
    · obtain ⟨rfl, rfl⟩ := e1
      rw [if_pos ⟨rfl, rfl⟩, if_neg (by omega)]
      exact w1 c a1 hc
    · rw [if_neg e1]
      by_cases e2 : r + 1 = i ∧ c = p
      · rw [if_pos e2]
        obtain ⟨rfl, rfl⟩ := e2
        have := t3 r hr c hc
        omega
      · rw [if_neg e2]; exact t3 r hr c hc
  · dsimp only
    by_cases e1 : r = i ∧ c = p
    · rw [if_pos e1]; exact hx
    · rw [if_neg e1]; exact t4 r hr c hc
  · dsimp only
    by_cases e1 : c = p
    · rw [if_pos ⟨rfl, e1⟩]; exact a3
    · rw [if_neg (fun q => e1 q.2)]
      have := a4 c (by omega) hc2
      omega
  · obtain ⟨k, rfl⟩ : ∃ k, i = k + 1 := ⟨i - 1, by omega⟩
    rw [Nat.add_sub_cancel]
    have := t1 k (by omega)
    dsimp only
    rw [if_neg (by omega)]
    exact ⟨by omega, t3 k (by omega) p a2⟩
theorem upE_ok {l : Nat → Nat} : ∀ i E x, i < 9 → JJ l i E x → TB l (upE l i E x).1 ∧ 1 ≤ (upE l i E x).2 ∧ (upE l i E x).2 ≤ 9
  | 0, E, x, _, h => ⟨h.1, h.2.1⟩
  | i + 1, E, x, hi, h => upE_ok i _ _ (by omega) (h.step hi).2
/-- the row of a number grows shorter -/
def lD (l : Nat → Nat) (r : Nat) : Nat → Nat := fun i => if i = r then l r - 1 else l i
theorem lD_s {l : Nat → Nat} {r : Nat} : lD l r r = l r - 1 := if_pos rfl
theorem lD_n {l : Nat → Nat} {r i : Nat} (h : i ≠ r) : lD l r i = l i := if_neg h
theorem lD_le (l : Nat → Nat) (r i : Nat) : lD l r i ≤ l i := by
  by_cases e : i = r
  · subst e; rw [lD_s]; omega
  · rw [lD_n e]; exact Nat.le_refl _
theorem sm_lD {l : Nat → Nat} {r : Nat} (hr : r < 9) (h : 1 ≤ l r) : sm (lD l r) + 1 = sm l := by
  have := ps_inc (l := l) (v := l r - 1) 9 hr
  show ps (lD l r) 9 + 1 = ps l 9
  unfold lD
  omega
def RQ (l0 l : Nat → Nat) (Q : Nat → Nat → Nat) (t : Nat) : Prop := (∀ r, r < 9 → l r ≤ l0 r) ∧ (∀ r, r < 9 → ∀ c d, c < d → d < l r → Q r c < Q r d) ∧ (∀ r, r + 1 < 9 → ∀ c, c < l (r + 1) → Q r c < Q (r + 1) c) ∧ (∀ r, r < 9 → ∀ c, c < l r → 1 ≤ Q r c ∧ Q r c ≤ t) ∧ (∀ v, 1 ≤ v → v ≤ t → ∃ r c, r < 9 ∧ c < l r ∧ Q r c = v) ∧ ∀ r c r' c', r < 9 → c < l0 r → r' < 9 → c' < l0 r' → Q r c = Q r' c' → r = r' ∧ c = c'
theorem RQ.last {l0 l : Nat → Nat} {Q : Nat → Nat → Nat} {t : Nat} (h : RQ l0 l Q t) (ht : 1 ≤ t) {ρ : Nat → Nat} (hρ : ρ t < 9 ∧ ∃ c, c < l0 (ρ t) ∧ Q (ρ t) c = t) : 1 ≤ l (ρ t) ∧ Q (ρ t) (l (ρ t) - 1) = t ∧ (ρ t + 1 < 9 → l (ρ t + 1) ≤ l (ρ t) - 1) := by
  obtain ⟨h1, h2, h3, h4, h5, h6⟩ := h
  obtain ⟨r, c, hr, hc, e⟩ := h5 t ht (Nat.le_refl t)
  obtain ⟨hρ1, c', hc', e'⟩ := hρ
  obtain ⟨er, -⟩ := h6 r c (ρ t) c' hr (by have := h1 r hr; omega) hρ1 hc' (by rw [e, e'])
  rw [← er]
  have hend : c + 1 = l r := by
    rcases Nat.lt_or_ge (c + 1) (l r) with q | q
    · have := h2 r hr c (c + 1) (by omega) q
      have := (h4 r hr (c + 1) q).2
      omega
    · omega
  refine ⟨by omega, by rw [← hend, Nat.add_sub_cancel]; exact e, fun hr1 => ?_⟩
  rcases Nat.lt_or_ge c (l (r + 1)) with q | q
  · have := h3 r hr1 c q
    have := (h4 (r + 1) hr1 c q).2
    omega
  · omega
theorem RQ.next {l0 l : Nat → Nat} {Q : Nat → Nat → Nat} {t r : Nat} (h : RQ l0 l Q (t + 1)) (hr : r < 9) (h1 : 1 ≤ l r) (hq : Q r (l r - 1) = t + 1) : RQ l0 (lD l r) Q t := by
  obtain ⟨g1, g2, g3, g4, g5, g6⟩ := h
  refine ⟨fun i hi => Nat.le_trans (lD_le l r i) (g1 i hi), fun i hi c d hcd hd => g2 i hi c d hcd (Nat.lt_of_lt_of_le hd (lD_le l r i)), fun i hi c hc => g3 i hi c (Nat.lt_of_lt_of_le hc (lD_le l r _)), fun i hi c hc => ?_, fun v hv1 hv2 => ?_, g6⟩
  · have hc2 := Nat.lt_of_lt_of_le hc (lD_le l r i)
    obtain ⟨a1, a2⟩ := g4 i hi c hc2
    refine ⟨a1, ?_⟩
    have : Q i c ≠ t + 1 := fun e => by
      have gi := g1 i hi
      have gr := g1 r hr
      obtain ⟨e1, e2⟩ := g6 i c r (l r - 1) hi (by omega) hr (by omega) (by rw [e, hq])
      subst e1
      rw [lD_s] at hc
      omega
    omega
  · obtain ⟨i, c, hi, hc, e⟩ := g5 v hv1 (by omega)
    refine ⟨i, c, hi, ?_, e⟩
    by_cases ei : i = r
    · subst ei
      rw [lD_s]
      rcases Nat.lt_or_ge c (l i - 1) with q | q
      · exact q
      · have : c = l i - 1 := by omega
        subst this; omega
    · rw [lD_n ei]; exact hc
theorem TB.start {l : Nat → Nat} {E : Nat → Nat → Nat} {r : Nat} (h : TB l E) (hr : r < 9) (h1 : 1 ≤ l r) (h2 : r + 1 < 9 → l (r + 1) ≤ l r - 1) : JJ (lD l r) r E (E r (l r - 1)) := by
  obtain ⟨t1, t2, t3, t4⟩ := h
  refine ⟨⟨fun i hi => ?_, fun i hi c d hcd hd => t2 i hi c d hcd (Nat.lt_of_lt_of_le hd (lD_le l r i)), fun i hi c hc => t3 i hi c (Nat.lt_of_lt_of_le hc (lD_le l r _)), fun i hi c hc => t4 i hi c (Nat.lt_of_lt_of_le hc (lD_le l r i))⟩, t4 r hr _ (by omega), l r - 1, fun c hc hc2 => ?_, fun h0 => ?_⟩
  · by_cases e : i = r
    · subst e
      rw [lD_s, lD_n (by omega)]
      exact h2 hi
    · rw [lD_n e]
      exact Nat.le_trans (lD_le l r _) (t1 i hi)
  · rw [lD_s] at hc2; omega
  · obtain ⟨k, rfl⟩ : ∃ k, r = k + 1 := ⟨r - 1, by omega⟩
    rw [Nat.add_sub_cancel, lD_n (by omega)]
    have := t1 k (by omega)
    exact ⟨by omega, t3 k (by omega) _ (by omega)⟩
def rdS (ρ : Nat → Nat) (T : Nat) (l : Nat → Nat) (e : Nat → Nat → Nat) : Nat → (Nat → Nat) × (Nat → Nat → Nat) × (Nat → Nat)
  | 0 => (l, e, fun _ => 0)
  | d + 1 => (lD (rdS ρ T l e d).1 (ρ (T - d)), (upE (lD (rdS ρ T l e d).1 (ρ (T - d))) (ρ (T - d)) (rdS ρ T l e d).2.1 ((rdS ρ T l e d).2.1 (ρ (T - d)) ((rdS ρ T l e d).1 (ρ (T - d)) - 1))).1, fun t => if t = T - d - 1 then (upE (lD (rdS ρ T l e d).1 (ρ (T - d))) (ρ (T - d)) (rdS ρ T l e d).2.1 ((rdS ρ T l e d).2.1 (ρ (T - d)) ((rdS ρ T l e d).1 (ρ (T - d)) - 1))).2 else (rdS ρ T l e d).2.2 t)
/-- how it stands after d letters -/
def RD (l0 : Nat → Nat) (Q : Nat → Nat → Nat) (T d : Nat) (s : (Nat → Nat) × (Nat → Nat → Nat) × (Nat → Nat)) : Prop := TB s.1 s.2.1 ∧ RQ l0 s.1 Q (T - d) ∧ sm s.1 = T - d ∧ ∀ t, (T - d ≤ t → t < T → 1 ≤ s.2.2 t ∧ s.2.2 t ≤ 9) ∧ (T ≤ t → s.2.2 t = 0)
theorem RD_all {l : Nat → Nat} {e Q : Nat → Nat → Nat} {T : Nat} {ρ : Nat → Nat} (hT : TB l e) (hQ : RQ l l Q T) (hs : sm l = T) (hρ : ∀ v, 1 ≤ v → v ≤ T → ρ v < 9 ∧ ∃ c, c < l (ρ v) ∧ Q (ρ v) c = v) : ∀ d, d ≤ T → RD l Q T d (rdS ρ T l e d)
  | 0, _ => ⟨hT, hQ, hs, fun t => ⟨fun h1 h2 => by omega, fun _ => rfl⟩⟩
  | d + 1, hd => by
    obtain ⟨r1, r2, r3, r4⟩ := RD_all hT hQ hs hρ d (by omega)
    obtain ⟨a1, a2, a3⟩ := r2.last (by omega) (hρ (T - d) (by omega) (by omega))
    have hr := (hρ (T - d) (by omega) (by omega)).1
    have hJ := r1.start hr a1 a3
    obtain ⟨u1, u2⟩ := upE_ok _ _ _ hr hJ
    have r2' : RQ l (rdS ρ T l e d).1 Q ((T - (d + 1)) + 1) := by rw [show T - (d + 1) + 1 = T - d by omega]; exact r2
    refine ⟨u1, r2'.next hr a1 (by rw [a2]; omega), ?_, fun t => ⟨fun h1 h2 => ?_, fun h1 => ?_⟩⟩
    · have := sm_lD hr a1
      show sm (lD _ _) = _
      omega
    · show 1 ≤ (if t = T - d - 1 then _ else _) ∧ (if t = T - d - 1 then _ else _) ≤ 9
      by_cases z : t = T - d - 1
      · rw [if_pos z]; exact u2
      · rw [if_neg z]; exact (r4 t).1 (by omega) h2
    · show (if t = T - d - 1 then _ else _) = 0
      rw [if_neg (by omega)]; exact (r4 t).2 h1
