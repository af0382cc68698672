/-! the box: box, weight, turn -/
theorem z1 {A B : Prop} (b : B) : ((1 : Int32) = 0 → A) ∧ (¬ (1 : Int32) = 0 → B) := ⟨fun c => absurd c (by decide), fun _ => b⟩
theorem z0 {A B : Prop} (a : A) : ((0 : Int32) = 0 → A) ∧ (¬ (0 : Int32) = 0 → B) := ⟨fun _ => a, fun c => absurd rfl c⟩
theorem x_within {x a b : Int32} {post : Int32 → Prop} (h1 : a ≤ x ∧ x ≤ b → post 1) (h0 : ¬ (a ≤ x ∧ x ≤ b) → post 0) : p_X4_isWithin x a b post := by
  rw [e_isWithin]
  by_cases c : a ≤ x ∧ x ≤ b
  · rw [if_pos c]; exact h1 c
  · rw [if_neg c]; exact h0 c
theorem m_inI {x a b : Int32} {post : Int32 → Prop} (h1 : a ≤ x ∧ x ≤ b → post 1) (h0 : ¬ (a ≤ x ∧ x ≤ b) → post 0) : p_X5_in x.toInt64 a.toInt64 b.toInt64 post := by
  rw [e_inI]
  by_cases c : a ≤ x ∧ x ≤ b
  · rw [if_pos c]; exact h1 c
  · rw [if_neg c]; exact h0 c
/-- the reference's test, where the answer is known -/
theorem m_inT {x a b : Int32} {A B : Int64} {post : Int32 → Prop} (c : a ≤ x ∧ x ≤ b) (h : post 1) (ha : A = a.toInt64 := by rfl) (hb : B = b.toInt64 := by rfl) : p_X5_in x.toInt64 A B post := by
  subst ha hb
  exact m_inI (fun _ => h) (fun q => absurd c q)
theorem m_inF {x a b : Int32} {A B : Int64} {post : Int32 → Prop} (c : ¬ (a ≤ x ∧ x ≤ b)) (h : post 0) (ha : A = a.toInt64 := by rfl) (hb : B = b.toInt64 := by rfl) : p_X5_in x.toInt64 A B post := by
  subst ha hb
  exact m_inI (fun q => absurd q c) (fun _ => h)
theorem x_weightT {x : Int32} {post : Int32 → Prop} (h1 : 0 ≤ x ∧ x ≤ 20 → post 1) (h0 : ¬ (0 ≤ x ∧ x ≤ 20) → post 0) : p_X4_isWeight x.toInt64 post := m_inI (a := 0) (b := 20) h1 h0
def IG (M N : Int32) (C Pa : Nat → Nat → Int32) (mm nn : Int32) (we : Nat → Int32) : Prop :=
  ∃ m n : Nat, (1 ≤ m ∧ m ≤ 6) ∧ (1 ≤ n ∧ n ≤ 6) ∧ M = nI m ∧ N = nI n ∧ mm = nI m ∧ nn = nI n ∧ (∀ i j, i < 6 → j < 6 → we (6 * i + j) = C i j) ∧ (∀ i j, i < 6 → j < 6 → ∃ a : Nat, a ≤ 20 ∧ C i j = nI a) ∧ (∀ r k, r < 49 → (r < 7 ∨ r % 7 = 0) → k < 6 → Pa r k = 0)
/-- a place of the box -/
def isPl (m n : Nat) (x1 x2 : Int32) : Prop := (0 ≤ x1 ∧ x1 ≤ nI m - 1) ∧ (0 ≤ x2 ∧ x2 ≤ nI n - 1)
theorem isPl_of {m n : Nat} {x1 x2 : Int32} (hm : 1 ≤ m ∧ m ≤ 6) (hn : 1 ≤ n ∧ n ≤ 6) (h : isPl m n x1 x2) : ∃ i j : Nat, i < m ∧ j < n ∧ x1 = nI i ∧ x2 = nI j := by
  obtain ⟨⟨h1, h2⟩, h3, h4⟩ := h
  obtain ⟨i, hi, rfl⟩ := n_of_le (show nI m - 1 = nI (m - 1) from pk_sub (b := 1) hm.1) (by omega) h1 h2
  obtain ⟨j, hj, rfl⟩ := n_of_le (show nI n - 1 = nI (n - 1) from pk_sub (b := 1) hn.1) (by omega) h3 h4
  exact ⟨i, j, by omega, by omega, rfl, rfl⟩
theorem x_hasPlace {m n : Nat} {x1 x2 : Int32} {post : Int32 → Prop} (h1 : isPl m n x1 x2 → post 1) (h0 : ¬ isPl m n x1 x2 → post 0) : p_X0_hasPlace (nI m) (nI n) x1 x2 post := by
  unfold p_X0_hasPlace
  simp only [e_isWithin]
  by_cases c1 : 0 ≤ x1 ∧ x1 ≤ nI m - 1
  · rw [if_pos c1]
    refine z1 ?_
    by_cases c2 : 0 ≤ x2 ∧ x2 ≤ nI n - 1
    · rw [if_pos c2]
      exact z1 (h1 ⟨c1, c2⟩)
    · rw [if_neg c2]
      exact z0 (h0 (fun q => c2 q.2))
  · rw [if_neg c1]
    exact z0 (h0 (fun q => c1 q.1))
theorem m_isPlace {m n : Nat} {x1 x2 : Int32} {post : Int32 → Prop} (h1 : isPl m n x1 x2 → post 1) (h0 : ¬ isPl m n x1 x2 → post 0) : p_X5_isPlace (nI m) (nI n) x1 x2 post := by
  unfold p_X5_isPlace
  exact m_inI (a := 0) (fun c1 => z1 (m_inI (a := 0) (fun c2 => z1 (h1 ⟨c1, c2⟩)) (fun c2 => z0 (h0 (fun q => c2 q.2))))) (fun c1 => z0 (h0 (fun q => c1 q.1)))
theorem x_reset {M N x1 x2 : Int32} {C : Nat → Nat → Int32} {post : Int32 → Int32 → (Nat → Nat → Int32) → Prop} (h : ∀ C', (∀ i j, i < 6 → j < 6 → C' i j = 0) → post x1 x2 C') : p_X0_reset M N C x1 x2 post := by
  unfold p_X0_reset
  have key : ∀ d i C', i + d = 6 → (∀ a b, a < i → b < 6 → C' a b = 0) → p_X0_reset_12 x1 x2 post (d + 1) x1 x2 C' (nI i) := by
    intro d
    induction d with
    | zero =>
      intro i C' hi hC
      unfold p_X0_reset_12
      exact pk_le 6 i (fun _ => h C' (fun a b ha hb => hC a b (by omega) hb)) (fun c => by omega)
    | succ d ih =>
      intro i C' hi hC
      unfold p_X0_reset_12
      refine pk_le 6 i (fun c => by omega) (fun c => ⟨pk_in i 6 (by omega), ?_⟩)
      rw [nI_1, nI_clamp (by omega)]
      refine s_fill (by decide) (fun f' hf _ => ih (i + 1) _ (by omega) (fun a b ha hb => ?_))
      by_cases e : a = i
      · subst e; rw [up2_s]; exact hf b hb
      · rw [up2_n e]; exact hC a b (by omega) hb
  refine ⟨7, ?_⟩
  rw [← nI_0]
  exact key 6 0 C (by omega) (fun a b ha => absurd ha (Nat.not_lt_zero a))
theorem m_box {x1 x2 : Int32} {we : Nat → Int32} {post : Int32 → Int32 → Int32 → (Nat → Int32) → Prop} (h : ∀ we', (∀ i, i < 36 → we' i = 0) → post 1 x1 x2 we') : ∃ n, p_X5_box_38 x1 x2 post n x1 x2 we 0 := by
  have key : ∀ d i we', i + d = 36 → (∀ a, a < i → we' a = 0) → p_X5_box_38 x1 x2 post (d + 1) x1 x2 we' (nI i) := by
    intro d
    induction d with
    | zero =>
      intro i C' hi hC
      unfold p_X5_box_38
      exact pk_le 36 i (fun _ => h C' (fun a ha => hC a (by omega))) (fun c => by omega)
    | succ d ih =>
      intro i C' hi hC
      unfold p_X5_box_38
      refine pk_le 36 i (fun c => by omega) (fun c => ⟨pk_in i 36 (by omega), ?_⟩)
      rw [nI_1, nI_clamp (by omega)]
      refine ih (i + 1) _ (by omega) (fun a ha => ?_)
      rw [upd_at]
      split
      · rfl
      · exact hC a (by omega)
  refine ⟨37, ?_⟩
  rw [← nI_0]
  exact key 36 0 we (by omega) (fun a ha => absurd ha (Nat.not_lt_zero a))
theorem st_box {M N : Int32} {C Pa : Nat → Nat → Int32} {mm nn : Int32} {we : Nat → Int32} (h : IG M N C Pa mm nn we) (x1 x2 : Int32) {K : Int32 → Int32 → (Nat → Nat → Int32) → Int32 → Int32 → (Nat → Int32) → Prop} (hK : ∀ M' N' C' mm' nn' we', IG M' N' C' Pa mm' nn' we' → K M' N' C' mm' nn' we') :
    p_X4_box M N C x1 x2 (fun r M' N' C' => p_X5_box mm nn we x1 x2 (fun r' mm' nn' we' => (r = r' → K M' N' C' mm' nn' we') ∧ (¬ r = r' → False))) := by
  unfold p_X4_box p_X5_box
  refine x_within (fun c1 => z1 (x_within (fun c2 => z1 (x_reset (fun C' hC => m_inT c1 (z1 (m_inT c2 (z1 (m_box (fun we' hw => fin_eq rfl (hK _ _ _ _ _ _ ?_)))))))))
    (fun c2 => z0 (m_inT c1 (z1 (m_inF c2 (z0 (fin_eq rfl (hK _ _ _ _ _ _ h))))))))) (fun c1 => z0 (m_inF c1 (z0 (fin_eq rfl (hK _ _ _ _ _ _ h)))))
  obtain ⟨m, n, -, -, -, -, -, -, -, -, hPa⟩ := h
  obtain ⟨i, hi, rfl⟩ := n_of_le (show (6 : Int32) = nI 6 from rfl) (by decide) (Int32.le_trans (by decide) c1.1) c1.2
  obtain ⟨j, hj, rfl⟩ := n_of_le (show (6 : Int32) = nI 6 from rfl) (by decide) (Int32.le_trans (by decide) c2.1) c2.2
  have hi1 : 1 ≤ i := (nI_leI (a := 1) (by decide) (by omega)).mp c1.1
  have hj1 : 1 ≤ j := (nI_leI (a := 1) (by decide) (by omega)).mp c2.1
  exact ⟨i, j, ⟨hi1, hi⟩, ⟨hj1, hj⟩, rfl, rfl, rfl, rfl, fun a b ha hb => by rw [hw _ (by omega), hC a b ha hb], fun a b ha hb => ⟨0, by omega, hC a b ha hb⟩, hPa⟩
theorem n6 (i j : Nat) : 6 * nI i + nI j = nI (6 * i + j) := by rw [show (6 : Int32) = nI 6 from rfl, pk_mul, nI_add]
theorem st_weight {M N : Int32} {C Pa : Nat → Nat → Int32} {mm nn : Int32} {we : Nat → Int32} (h : IG M N C Pa mm nn we) (x1 x2 x3 : Int32) {K : (Nat → Nat → Int32) → (Nat → Int32) → Prop} (hK : ∀ C' we', IG M N C' Pa mm nn we' → K C' we') :
    p_X4_weight M N C x1 x2 x3 (fun r C' => p_X5_weight mm nn we x1 x2 x3 (fun r' we' => (r = r' → K C' we') ∧ (¬ r = r' → False))) := by
  obtain ⟨m, n, hm, hn, rfl, rfl, rfl, rfl, hw, hb, hPa⟩ := id h
  unfold p_X4_weight p_X5_weight
  refine x_hasPlace (fun c => z1 (x_weightT (fun c3 => z1 ?_) (fun c3 => z0 (m_isPlace (fun _ => z1 (m_inF c3 (z0 (fin_eq rfl (hK _ _ h))))) (fun c2 => absurd c c2))))) (fun c => z0 (m_isPlace (fun c2 => absurd c2 c) (fun _ => z0 (fin_eq rfl (hK _ _ h)))))
  obtain ⟨i, j, hi, hj, rfl, rfl⟩ := isPl_of hm hn c
  obtain ⟨a, ha, rfl⟩ := n_of_le (show (20 : Int32) = nI 20 from rfl) (by decide) c3.1 c3.2
  unfold p_X0_exchange
  have i6 : vp_in (nI i) 6 := pk_in i 6 (by omega)
  have j6 : vp_in (nI j) 6 := pk_in j 6 (by omega)
  refine ⟨i6, j6, i6, j6, m_isPlace (fun _ => z1 (m_inT c3 (z1 ?_))) (fun c2 => absurd c c2)⟩
  simp only [n6, nI_clamp (show i < 2 ^ 31 by omega), nI_clamp (show j < 2 ^ 31 by omega), nI_clamp (show 6 * i + j < 2 ^ 31 by omega)]
  have ij : vp_in (nI (6 * i + j)) 36 := pk_in (6 * i + j) 36 (by omega)
  refine ⟨ij, ij, fin_eq (hw i j (by omega) (by omega)).symm (hK _ _ ⟨m, n, hm, hn, rfl, rfl, rfl, rfl, fun p q hp hq => ?_, fun p q hp hq => ?_, hPa⟩)⟩
  · rw [upd_at, up2_at]
    by_cases e : p = i ∧ q = j
    · rw [if_pos e, if_pos (by omega)]
    · rw [if_neg e, if_neg (by omega)]; exact hw p q hp hq
  · rw [up2_at]
    split
    · exact ⟨a, ha, rfl⟩
    · exact hb p q hp hq
