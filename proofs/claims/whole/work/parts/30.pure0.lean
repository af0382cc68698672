/-! small things: what the tests answer -/
theorem fin_eq {α : Type} {a b : α} {K : Prop} (e : a = b) (k : K) : (a = b → K) ∧ (¬ a = b → False) := ⟨fun _ => k, fun c => c e⟩
theorem fin_cmp {a b : Int64} {K : Prop} (e : a = b) (k : K) : (lg_cmp a b = 0 → K) ∧ (¬ lg_cmp a b = 0 → False) := ⟨fun _ => k, fun c => c (by subst e; simp [lg_cmp])⟩
theorem le_not_lt {a b : Int32} : a ≤ b ↔ ¬ b < a := by rw [Int32.le_iff_toInt_le, Int32.lt_iff_toInt_lt]; omega
theorem e_isWithin (x a b : Int32) (post : Int32 → Prop) : p_X4_isWithin x a b post ↔ post (if a ≤ x ∧ x ≤ b then 1 else 0) := by
  unfold p_X4_isWithin
  by_cases h1 : x < a
  · have : ¬ a ≤ x := fun q => (le_not_lt.mp q) h1
    simp [h1, this]
  · by_cases h2 : b < x
    · have : ¬ x ≤ b := fun q => (le_not_lt.mp q) h2
      simp [h1, h2, this]
    · have h3 : a ≤ x := le_not_lt.mpr h1
      have h4 : x ≤ b := le_not_lt.mpr h2
      simp [h1, h2, h3, h4]
theorem lgc_lt {a b : Int64} : lg_cmp a b < 0 ↔ a < b := by
  unfold lg_cmp
  by_cases h1 : b < a
  · have : ¬ a < b := by rw [Int64.lt_iff_toInt_lt] at *; omega
    simp only [h1, if_true, this, iff_false]; decide
  · by_cases h2 : a = b
    · subst h2
      simp [h1]
    · have : a < b := by
        rw [Int64.lt_iff_toInt_lt] at *
        have : ¬ a.toInt = b.toInt := fun q => h2 (Int64.toInt_inj.mp q)
        omega
      simp only [h1, h2, if_false, this, iff_true]; decide
theorem lgc_gt {a b : Int64} : 0 < lg_cmp a b ↔ b < a := by
  unfold lg_cmp
  by_cases h1 : b < a
  · simp only [h1, if_true, iff_true]; decide
  · by_cases h2 : a = b
    · subst h2
      simp [h1]
    · simp only [h1, h2, if_false, iff_false]; decide
theorem le_not_lt64 {a b : Int64} : a ≤ b ↔ ¬ b < a := by rw [Int64.le_iff_toInt_le, Int64.lt_iff_toInt_lt]; omega
theorem e_in (x a b : Int64) (post : Int32 → Prop) : p_X5_in x a b post ↔ post (if a ≤ x ∧ x ≤ b then 1 else 0) := by
  unfold p_X5_in
  rw [lgc_lt, lgc_gt]
  by_cases h1 : x < a
  · have : ¬ a ≤ x := fun q => (le_not_lt64.mp q) h1
    simp [h1, this]
  · by_cases h2 : b < x
    · have : ¬ x ≤ b := fun q => (le_not_lt64.mp q) h2
      simp [h1, h2, this]
    · have h3 : a ≤ x := le_not_lt64.mpr h1
      have h4 : x ≤ b := le_not_lt64.mpr h2
      simp [h1, h2, h3, h4]
theorem e_isWeight (x : Int64) (post : Int32 → Prop) : p_X4_isWeight x post ↔ post (if 0 ≤ x ∧ x ≤ 20 then 1 else 0) := e_in x 0 20 post
theorem wide_le (a b : Int32) : a.toInt64 ≤ b.toInt64 ↔ a ≤ b := by rw [Int64.le_iff_toInt_le, Int32.le_iff_toInt_le, Int32.toInt_toInt64, Int32.toInt_toInt64]
/-- an int test in longs -/
theorem e_inI (x a b : Int32) (post : Int32 → Prop) : p_X5_in x.toInt64 a.toInt64 b.toInt64 post ↔ post (if a ≤ x ∧ x ≤ b then 1 else 0) := by
  simp only [e_in, wide_le]
theorem e_isSheetX (x : Int32) (post : Int32 → Prop) : p_X4_isSheet x post ↔ post (if 0 ≤ x ∧ x ≤ 3 then 1 else 0) := by
  unfold p_X4_isSheet
  rw [e_isWithin]
  by_cases h : 0 ≤ x ∧ x ≤ 3
  · simp [h]; intro _; decide
  · simp only [h, if_false]; simp; intro _; decide
theorem bnar (c : Prop) [Decidable c] : narrow .boolean (.int (if c then 1 else 0)) = .int (if c then 1 else 0) := by
  by_cases h : c
  · rw [if_pos h]; rfl
  · rw [if_neg h]; rfl
/-- a number from 0 on -/
theorem n_of {x : Int32} (h : 0 ≤ x) : ∃ j : Nat, j < 2 ^ 31 ∧ x = nI j := nI_of (le_not_lt.mp h)
theorem n_of_le {x b : Int32} {n : Nat} (hb : b = nI n) (hn : n < 2 ^ 31) (h : 0 ≤ x) (h2 : x ≤ b) : ∃ j : Nat, j ≤ n ∧ x = nI j := by
  obtain ⟨j, hj, rfl⟩ := n_of h
  rw [hb, nI_leI hj hn] at h2
  exact ⟨j, h2, rfl⟩
/-- a row filled -/
theorem s_fill {n : Nat} (hn : n < 2 ^ 31) {f : Nat → Int32} {v : Int32} {post : (Nat → Int32) → Prop} (h : ∀ f', (∀ i, i < n → f' i = v) → (∀ i, n ≤ i → f' i = f i) → post f') : p_J7_fill_53178 n f v post := by
  unfold p_J7_fill_53178
  have key : ∀ d i f', i + d = n → (∀ j, j < i → f' j = v) → (∀ j, i ≤ j → f' j = f j) → p_J7_fill_53178_5 n v post (d + 1) f' (nI i) (nI n) := by
    intro d
    induction d with
    | zero =>
      intro i f' hi hf hg
      unfold p_J7_fill_53178_5
      exact pk_le n i (fun _ => h f' (fun j hj => hf j (by omega)) (fun j hj => hg j (by omega))) (fun c => by omega)
    | succ d ih =>
      intro i f' hi hf hg
      unfold p_J7_fill_53178_5
      refine pk_le n i (fun c => by omega) (fun c => ⟨pk_in i n (by omega), ?_⟩)
      rw [nI_1, nI_clamp (by omega)]
      refine ih (i + 1) _ (by omega) (fun j hj => ?_) (fun j hj => ?_)
      · by_cases e : j = i
        · subst e; exact pk_us
        · rw [pk_un e]; exact hf j (by omega)
      · rw [pk_un (by omega)]; exact hg j (by omega)
  refine ⟨n + 1, ?_⟩
  rw [← nI_0]
  exact key n 0 f (by omega) (fun j hj => absurd hj (Nat.not_lt_zero j)) (fun _ _ => rfl)
theorem s_fillL {n : Nat} (hn : n < 2 ^ 31) {f : Nat → Int64} {v : Int64} {post : (Nat → Int64) → Prop} (h : ∀ f', (∀ i, i < n → f' i = v) → post f') : p_J7_fill_d0a16 n f v post := by
  unfold p_J7_fill_d0a16
  have key : ∀ d i f', i + d = n → (∀ j, j < i → f' j = v) → p_J7_fill_d0a16_6 n v post (d + 1) f' (nI i) (nI n) := by
    intro d
    induction d with
    | zero =>
      intro i f' hi hf
      unfold p_J7_fill_d0a16_6
      exact pk_le n i (fun _ => h f' (fun j hj => hf j (by omega))) (fun c => by omega)
    | succ d ih =>
      intro i f' hi hf
      unfold p_J7_fill_d0a16_6
      refine pk_le n i (fun c => by omega) (fun c => ⟨pk_in i n (by omega), ?_⟩)
      rw [nI_1, nI_clamp (by omega)]
      refine ih (i + 1) _ (by omega) (fun j hj => ?_)
      by_cases e : j = i
      · subst e; exact pk_uLs
      · rw [pk_uLn e]; exact hf j (by omega)
  refine ⟨n + 1, ?_⟩
  rw [← nI_0]
  exact key n 0 f (by omega) (fun j hj => absurd hj (Nat.not_lt_zero j))
theorem up2_s {α : Type} {f : Nat → Nat → α} {i : Nat} {g : Nat → α} : up2 f i g i = g := if_pos rfl
theorem up2_n {α : Type} {f : Nat → Nat → α} {i j : Nat} {g : Nat → α} (h : j ≠ i) : up2 f i g j = f j := if_neg h
/-- one place of rows of ints -/
theorem up2_at {f : Nat → Nat → Int32} {i j a b : Nat} {v : Int32} : up2 f i (upd (f i) j v) a b = if a = i ∧ b = j then v else f a b := by
  by_cases h : a = i
  · subst h
    rw [up2_s]
    by_cases h2 : b = j
    · subst h2; rw [pk_us]; simp
    · rw [pk_un h2]; simp [h2]
  · rw [up2_n h]; simp [h]
theorem upd_at {f : Nat → Int32} {i a : Nat} {v : Int32} : upd f i v a = if a = i then v else f a := rfl
