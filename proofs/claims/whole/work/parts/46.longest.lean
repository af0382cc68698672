/-! longest, in both -/
theorem mxI_n {a b : Nat} (ha : a < 2 ^ 31) (hb : b < 2 ^ 31) : mxI (nI a) (nI b) = nI (max a b) := by
  unfold mxI
  by_cases q : a < b
  · rw [if_pos (nI_lt q hb), Nat.max_eq_right (by omega)]
  · rw [if_neg (nI_nlt (by omega) ha), Nat.max_eq_left (by omega)]
theorem m_longest {w : Nat → Nat} {k : Nat} (hw : isW w k) (hk : k ≤ 40) {wo lo : Nat → Int32} (hwo : ∀ t, t < k → wo t = nI (w t)) {x1 : Int32} (hx : 0 ≤ x1 ∧ x1 ≤ 1) {ok : Nat → Nat → Prop} (hok0 : x1 = 0 → ∀ i j, ok i j ↔ w i ≤ w j) (hok1 : x1 ≠ 0 → ∀ i j, ok i j ↔ w j < w i) {post : Int32 → (Nat → Int32) → Prop} (h : ∀ D m lo', (∀ j, j < k → IsDP ok D j) → (∀ j, j < k → D j ≤ m) → ((m = 0 ∧ k = 0) ∨ ∃ j, j < k ∧ D j = m) → post (nI m) lo') : p_X5_longest wo (nI k) lo x1 post := by
  unfold p_X5_longest
  refine m_inT (a := 0) hx (z1 ?_)
  refine pk_loop (fun u l (s : (Nat → Int32) × Int32) => p_X5_longest_16 wo (nI k) x1 post u s.1 s.2 (nI l)) (fun l s => ∃ (D : Nat → Nat) (m : Nat), (∀ j, j < l → s.1 j = nI (D j) ∧ IsDP ok D j ∧ D j ≤ j + 1) ∧ s.2 = nI m ∧ (∀ j, j < l → D j ≤ m) ∧ ((m = 0 ∧ l = 0) ∨ ∃ j, j < l ∧ D j = m)) k 0 (lo, 0) (by omega) ⟨fun _ => 0, 0, fun j hj => absurd hj (Nat.not_lt_zero j), rfl, fun j hj => absurd hj (Nat.not_lt_zero j), Or.inl ⟨rfl, rfl⟩⟩ (fun u s hs => ?_) (fun u l s hl hs ih => ?_)
  · show p_X5_longest_16 _ _ _ _ _ _ _ _
    unfold p_X5_longest_16
    obtain ⟨D, m, s1, s2, s3, s4⟩ := hs
    rw [s2]
    exact pk_le k k (fun _ => h D m s.1 (fun j hj => (s1 j hj).2.1) s3 s4) (fun q => by omega)
  · show p_X5_longest_16 _ _ _ _ _ _ _ _
    unfold p_X5_longest_16
    obtain ⟨D, m, s1, s2, s3, s4⟩ := hs
    have hm : m ≤ l := by
      rcases s4 with s4 | ⟨j, hj, s4⟩
      · omega
      · have := (s1 j hj).2.2; omega
    have hl40 : vp_in (nI l) 40 := pk_in l 40 (by omega)
    refine pk_le k l (fun q => by omega) (fun _ => ⟨hl40, ?_⟩)
    rw [nI_clamp (by omega)]
    refine pk_loop (fun v i lo => p_X5_longest_34 wo (nI k) x1 post _ v lo s.2 (nI l) (nI i)) (fun i lo => ∃ v : Nat, lo l = nI v ∧ 1 ≤ v ∧ v ≤ l + 1 ∧ (∀ i', i' < i → ok i' l → D i' + 1 ≤ v) ∧ (v = 1 ∨ ∃ i', i' < i ∧ ok i' l ∧ v = D i' + 1) ∧ ∀ j, j < l → lo j = nI (D j)) l 0 _ (by omega) ⟨1, pk_us, Nat.le_refl 1, by omega, fun i' hi' => absurd hi' (Nat.not_lt_zero i'), Or.inl rfl, fun j hj => by rw [pk_un (by omega)]; exact (s1 j hj).1⟩ (fun v lo' hlo => ?_) (fun v i lo' hi hlo ih2 => ?_)
    · show p_X5_longest_34 _ _ _ _ _ _ _ _ _ _
      unfold p_X5_longest_34
      obtain ⟨y, y1, y2, y3, y4, y5, y6⟩ := hlo
      refine pk_le l l (fun _ => ⟨hl40, m_greater ?_⟩) (fun q => by omega)
      rw [nI_clamp (by omega), y1, s2, mxI_n (by omega) (by omega), nI_1]
      refine ih (lo', nI (max m y)) ⟨fun j => if j = l then y else D j, max m y, fun j hj => ?_, rfl, fun j hj => ?_, Or.inr ?_⟩
      · dsimp only
        by_cases e : j = l
        · subst e
          rw [if_pos rfl]
          refine ⟨y1, ⟨?_, fun i hi ho => ?_, ?_⟩, y3⟩
          · dsimp only; rw [if_pos rfl]; exact y2
          · dsimp only; rw [if_pos rfl, if_neg (by omega)]; exact y4 i hi ho
          · dsimp only; rw [if_pos rfl]
            rcases y5 with y5 | ⟨i, hi, ho, y5⟩
            · exact Or.inl y5
            · exact Or.inr ⟨i, hi, ho, by rw [if_neg (by omega)]; exact y5⟩
        · rw [if_neg e]
          refine ⟨y6 j (by omega), (s1 j (by omega)).2.1.congr (fun i hi => by rw [if_neg (by omega)]), (s1 j (by omega)).2.2⟩
      · dsimp only
        by_cases e : j = l
        · rw [if_pos e]; omega
        · rw [if_neg e]
          have := s3 j (by omega); omega
      · dsimp only
        rcases Nat.lt_or_ge y m with q | q
        · rcases s4 with s4 | ⟨j, hj, s4⟩
          · omega
          · exact ⟨j, by omega, by rw [if_neg (by omega)]; omega⟩
        · exact ⟨l, by omega, by rw [if_pos rfl]; omega⟩
    · show p_X5_longest_34 _ _ _ _ _ _ _ _ _ _
      obtain ⟨y, y1, y2, y3, y4, y5, y6⟩ := hlo
      have hi40 : vp_in (nI i) 40 := pk_in i 40 (by omega)
      have hDi := (s1 i hi).2.2
      have no : ¬ ok i l → p_X5_longest_89 wo (nI k) x1 post (fun lo x2 x3 => p_X5_longest_16 wo (nI k) x1 post u lo x2 x3) (fun lo x2 x3 x4 => p_X5_longest_34 wo (nI k) x1 post (fun lo x2 x3 => p_X5_longest_16 wo (nI k) x1 post u lo x2 x3) v lo x2 x3 x4) lo' s.2 (nI l) (nI i) 0 := by
        intro q
        unfold p_X5_longest_89 p_X5_longest_128
        refine z0 ⟨hl40, hl40, ?_⟩
        rw [nI_1, nI_clamp (by omega)]
        refine ih2 _ ⟨y, by rw [pk_us]; exact y1, y2, y3, fun i' hi' ho => ?_, ?_, fun j hj => by rw [pk_un (by omega)]; exact y6 j hj⟩
        · by_cases e : i' = i
          · subst e; exact absurd ho q
          · exact y4 i' (by omega) ho
        · rcases y5 with y5 | ⟨i', hi', ho, y5⟩
          · exact Or.inl y5
          · exact Or.inr ⟨i', by omega, ho, y5⟩
      have yes : ok i l → p_X5_longest_89 wo (nI k) x1 post (fun lo x2 x3 => p_X5_longest_16 wo (nI k) x1 post u lo x2 x3) (fun lo x2 x3 x4 => p_X5_longest_34 wo (nI k) x1 post (fun lo x2 x3 => p_X5_longest_16 wo (nI k) x1 post u lo x2 x3) v lo x2 x3 x4) lo' s.2 (nI l) (nI i) 1 := by
        intro q
        unfold p_X5_longest_89 p_X5_longest_128
        refine z1 ⟨hl40, hi40, m_greater ⟨hl40, ?_⟩⟩
        rw [nI_1, nI_clamp (by omega), nI_clamp (by omega), y1, y6 i hi, nI_1, mxI_n (by omega) (by omega)]
        refine ih2 _ ⟨max y (D i + 1), pk_us, by omega, by omega, fun i' hi' ho => ?_, ?_, fun j hj => by rw [pk_un (by omega)]; exact y6 j hj⟩
        · by_cases e : i' = i
          · subst e; omega
          · have := y4 i' (by omega) ho; omega
        · rcases Nat.lt_or_ge (D i + 1) y with z | z
          · rw [Nat.max_eq_left (by omega)]
            rcases y5 with y5 | ⟨i', hi', ho, y5⟩
            · exact Or.inl y5
            · exact Or.inr ⟨i', by omega, ho, y5⟩
          · rw [Nat.max_eq_right z]; exact Or.inr ⟨i, by omega, q, rfl⟩
      unfold p_X5_longest_34
      have hwi := (hw i).1 (by omega)
      have hwl := (hw l).1 (by omega)
      rw [nI_clamp (show l < 2 ^ 31 by omega), nI_clamp (show i < 2 ^ 31 by omega), hwo i (by omega), hwo l (by omega)]
      refine pk_le l i (fun q => by omega) (fun _ => ⟨fun e => ⟨hi40, hl40, pk_lt (w l) (w i) (fun q => no (fun z => ?_)) (fun q => yes ((hok0 e i l).mpr q))⟩, fun e => ⟨hi40, hl40, pk_le (w i) (w l) (fun q => no (fun z => ?_)) (fun q => yes ((hok1 e i l).mpr q))⟩⟩)
      · have := (hok0 e i l).mp z; omega
      · have := (hok1 e i l).mp z; omega
theorem st_longest {pR pP qR qP le : Int32} {pL qL wo : Nat → Int32} {pN qN : Nat → Nat → Int32} (h : IW pR pP pL pN qR qP qL qN wo le) (lo : Nat → Int32) (x1 : Int32) {K : (Nat → Int32) → Prop} (hK : ∀ lo', K lo') :
    p_X4_longest pR pL qR qL x1 (fun r => p_X5_longest wo le lo x1 (fun r' lo' => (r = r' → K lo') ∧ (¬ r = r' → False))) := by
  obtain ⟨w, k, hw, hk, rfl, hwo, hP, hQ⟩ := h
  unfold p_X4_longest p_X2_rowCount
  refine x_which (fun c => z1 (z0 ⟨fun e => ?_, fun e => ?_⟩)) (fun c => z0 (by unfold p_X5_longest; exact m_inF (a := 0) c (z0 (fin_eq rfl (hK _)))))
  · refine x_len (r := 0) (by omega) ?_
    refine m_longest hw hk hwo c (ok := fun i j => w i ≤ w j) (fun _ i j => Iff.rfl) (fun q => absurd e q) (fun D m lo' hD h1 h2 => fin_eq ?_ (hK _))
    rw [(hP.2.1 0 (by omega)).1]
    exact congrArg nI (dp_row_len (w := w) (fun t ht => by have := (hw t).1 ht; omega) hD h1 h2)
  · refine m_longest hw hk hwo c (ok := okF w) (fun q => absurd q e) (fun _ i j => Iff.rfl) (fun D m lo' hD h1 h2 => fin_eq ?_ (hK _))
    obtain ⟨n, hn, e1, e2⟩ := hP.2.2
    rw [e1]
    have := LD_rows hw.all hn e2 9 0 m (by omega) ⟨D, hD, fun t ht _ => h1 t ht, by
      rcases h2 with h2 | ⟨j, hj, h2⟩
      · exact Or.inl h2.1
      · exact Or.inr ⟨j, hj, by have := (hw j).1 hj; show w j ≠ 0; omega, h2⟩⟩
    rw [this]; rfl
