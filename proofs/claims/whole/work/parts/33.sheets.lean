/-! sheets: sheet, drop, item -/
def IS (I : Nat → Nat → Int64) (Ln Sz la si it : Nat → Int32) : Prop :=
  ∀ s, s < 4 → la s = Ln s ∧ (Ln s = -1 ∨ ((Ln s = 0 ∨ Ln s = 1) ∧ si s = Sz s ∧ ∃ k : Nat, k ≤ 36 ∧ Sz s = nI k)) ∧ ∀ j, j < 36 → I s j = (it (36 * s + j)).toInt64
theorem x_sheetT {x : Int32} {post : Int32 → Prop} (h1 : 0 ≤ x ∧ x ≤ 3 → post 1) (h0 : ¬ (0 ≤ x ∧ x ≤ 3) → post 0) : p_X4_isSheet x post := by
  rw [e_isSheetX]
  by_cases c : 0 ≤ x ∧ x ≤ 3
  · rw [if_pos c]; exact h1 c
  · rw [if_neg c]; exact h0 c
theorem x_laneT {x : Int32} {post : Int32 → Prop} (h1 : 0 ≤ x ∧ x ≤ 1 → post 1) (h0 : ¬ (0 ≤ x ∧ x ≤ 1) → post 0) : p_X4_isLane x post := by
  unfold p_X4_isLane
  exact x_within (fun c => ⟨rfl, h1 c⟩) (fun c => ⟨rfl, h0 c⟩)
theorem m_sheetT {x y : Int32} {post : Int32 → Prop} (c1 : 0 ≤ x ∧ x ≤ 3) (c2 : 0 ≤ y ∧ y ≤ 1) (h : post 1) : p_X5_isSheet x y post := by
  unfold p_X5_isSheet
  exact m_inT c1 (z1 (m_inT c2 (z1 h)))
theorem m_sheetF {x y : Int32} {post : Int32 → Prop} (c : ¬ (0 ≤ x ∧ x ≤ 3) ∨ ¬ (0 ≤ y ∧ y ≤ 1)) (h : post 0) : p_X5_isSheet x y post := by
  unfold p_X5_isSheet
  by_cases c1 : 0 ≤ x ∧ x ≤ 3
  · rcases c with c | c
    · exact absurd c1 c
    · exact m_inT c1 (z1 (m_inF c (z0 h)))
  · exact m_inF c1 (z0 h)
theorem lane_of {x : Int32} (h : 0 ≤ x ∧ x ≤ 1) : x = 0 ∨ x = 1 := by
  obtain ⟨j, hj, rfl⟩ := n_of_le (show (1 : Int32) = nI 1 from rfl) (by decide) h.1 h.2
  rcases (by omega : j = 0 ∨ j = 1) with rfl | rfl
  · exact Or.inl rfl
  · exact Or.inr rfl
theorem sheet_of {x : Int32} (h : 0 ≤ x ∧ x ≤ 3) : ∃ s : Nat, s < 4 ∧ x = nI s := by
  obtain ⟨j, hj, rfl⟩ := n_of_le (show (3 : Int32) = nI 3 from rfl) (by decide) h.1 h.2
  exact ⟨j, by omega, rfl⟩
theorem n36 (i j : Nat) : 36 * nI i + nI j = nI (36 * i + j) := by rw [show (36 : Int32) = nI 36 from rfl, pk_mul, nI_add]
theorem va_up_at {α : Type} {f : Nat → α} {k j : Nat} {v : α} : va_up f k v j = if j = k then v else f j := rfl
theorem st_sheet {I : Nat → Nat → Int64} {Ln Sz la si it : Nat → Int32} (h : IS I Ln Sz la si it) (x1 x2 x3 : Int32) {K : (Nat → Nat → Int64) → (Nat → Int32) → (Nat → Int32) → (Nat → Int32) → (Nat → Int32) → (Nat → Int32) → Prop} (hK : ∀ I' Ln' Sz' la' si' it', IS I' Ln' Sz' la' si' it' → K I' Ln' Sz' la' si' it') :
    p_X4_sheet I Ln Sz x1 x2 x3 (fun r I' Ln' Sz' => p_X5_sheet la si it x1 x2 x3 (fun r' la' si' it' => (r = r' → K I' Ln' Sz' la' si' it') ∧ (¬ r = r' → False))) := by
  unfold p_X4_sheet p_X5_sheet
  refine x_sheetT (fun c1 => z1 (x_laneT (fun c2 => z1 ⟨fun c3 => ⟨fun c4 => ?_, fun c4 => ?_⟩, fun c3 => ?_⟩) (fun c2 => z0 ?_))) (fun c1 => z0 ?_)
  · obtain ⟨s, hs, rfl⟩ := sheet_of c1
    obtain ⟨k, hk, rfl⟩ := n_of_le (show (36 : Int32) = nI 36 from rfl) (by decide) c4 c3
    have hs4 : vp_in (nI s) 4 := pk_in s 4 hs
    refine ⟨hs4, ?_⟩
    unfold p_X1_renew
    rw [nI_clamp (by omega)]
    refine s_fillL (by decide) (fun f hf => m_sheetT c1 c2 (z1 ⟨fun _ => ⟨fun _ => ⟨hs4, hs4, ?_⟩, fun c => absurd c4 c⟩, fun c => absurd c3 c⟩))
    refine pk_loop (fun n i it' => p_X5_sheet_40 (nI s) x2 (nI k) _ n (upd la s x2) (upd si s (nI k)) it' (nI i)) (fun i it' => ∀ j, j < 144 → it' j = if 36 * s ≤ j ∧ j < 36 * s + i then 0 else it j) 36 0 it (by omega) (fun j _ => by rw [if_neg (by omega)]) (fun n it' hit => ?_) (fun n i it' hi hit ih => ?_)
    · show p_X5_sheet_40 _ _ _ _ _ _ _ _ _
      unfold p_X5_sheet_40
      refine pk_le 36 36 (fun _ => fin_eq rfl (hK _ _ _ _ _ _ ?_)) (fun c => by omega)
      intro t ht
      obtain ⟨e1, e2, e3⟩ := h t ht
      by_cases e : t = s
      · subst e
        refine ⟨by rw [upd_at, va_up_at, if_pos rfl, if_pos rfl], Or.inr ⟨?_, by rw [upd_at, va_up_at, if_pos rfl, if_pos rfl], k, hk, by rw [va_up_at, if_pos rfl]⟩, fun j hj => ?_⟩
        · rw [va_up_at, if_pos rfl]; exact lane_of c2
        · rw [va_up_at, if_pos rfl, hf j hj, hit _ (by omega), if_pos (by omega)]; rfl
      · refine ⟨by rw [upd_at, va_up_at, if_neg e, if_neg e]; exact e1, ?_, fun j hj => ?_⟩
        · rw [va_up_at, upd_at, va_up_at, if_neg e, if_neg e, if_neg e]; exact e2
        · rw [va_up_at, if_neg e, hit _ (by omega), if_neg (by omega)]; exact e3 j hj
    · show p_X5_sheet_40 _ _ _ _ _ _ _ _ _
      unfold p_X5_sheet_40
      rw [n36, nI_1, nI_clamp (show 36 * s + i < 2 ^ 31 by omega)]
      refine pk_le 36 i (fun c => by omega) (fun _ => ⟨pk_in (36 * s + i) 144 (by omega), ih _ (fun j hj => ?_)⟩)
      rw [upd_at, hit j hj]
      by_cases e : j = 36 * s + i
      · rw [if_pos e, if_pos (by omega)]
      · rw [if_neg e]
        by_cases e2 : 36 * s ≤ j ∧ j < 36 * s + i
        · rw [if_pos e2, if_pos (by omega)]
        · rw [if_neg e2, if_neg (by omega)]
  · exact m_sheetT c1 c2 (z1 ⟨fun _ => ⟨fun c => absurd c c4, fun _ => fin_eq rfl (hK _ _ _ _ _ _ h)⟩, fun c => absurd c3 c⟩)
  · exact m_sheetT c1 c2 (z1 ⟨fun c => absurd c c3, fun _ => fin_eq rfl (hK _ _ _ _ _ _ h)⟩)
  · exact m_sheetF (Or.inr c2) (z0 (fin_eq rfl (hK _ _ _ _ _ _ h)))
  · exact m_sheetF (Or.inl c1) (z0 (fin_eq rfl (hK _ _ _ _ _ _ h)))
theorem st_drop {I : Nat → Nat → Int64} {Ln Sz la si it : Nat → Int32} (h : IS I Ln Sz la si it) (x1 : Int32) {K : (Nat → Int32) → (Nat → Int32) → (Nat → Int32) → Prop} (hK : ∀ Ln' Sz' la', IS I Ln' Sz' la' si it → K Ln' Sz' la') :
    p_X4_drop Ln Sz x1 (fun r Ln' Sz' => p_X5_drop la si x1 (fun r' la' => (r = r' → K Ln' Sz' la') ∧ (¬ r = r' → False))) := by
  unfold p_X4_drop p_X5_drop
  refine x_sheetT (fun c1 => z1 ?_) (fun c1 => z0 (m_inF c1 (z0 (fin_eq rfl (hK _ _ _ h)))))
  obtain ⟨s, hs, rfl⟩ := sheet_of c1
  have hs4 : vp_in (nI s) 4 := pk_in s 4 hs
  obtain ⟨e1, e2, e3⟩ := h s hs
  rw [nI_clamp (by omega), e1]
  refine ⟨hs4, ?_⟩
  unfold p_X1_isMissing p_X1_vanish
  refine ⟨fun c => z1 (m_inT c1 (z1 ⟨hs4, fun q => ?_, fun _ => fin_eq rfl (hK _ _ _ h)⟩)), fun c => z0 ⟨hs4, m_inT c1 (z1 ⟨hs4, fun q => ⟨hs4, hs4, ?_⟩, fun q => ?_⟩)⟩⟩
  · rw [c] at q; exact absurd q (by decide)
  · rcases e2 with e2 | ⟨e2, e4, k, hk, e5⟩
    · exact absurd e2 c
    · refine fin_eq e4.symm (hK _ _ _ (fun t ht => ?_))
      obtain ⟨f1, f2, f3⟩ := h t ht
      by_cases e : t = s
      · subst e
        exact ⟨by rw [upd_at, va_up_at, if_pos rfl, if_pos rfl], Or.inl (by rw [va_up_at, if_pos rfl]), f3⟩
      · refine ⟨by rw [upd_at, va_up_at, if_neg e, if_neg e]; exact f1, ?_, f3⟩
        rw [va_up_at, va_up_at, if_neg e, if_neg e]; exact f2
  · rcases e2 with e2 | ⟨e2 | e2, e4, k, hk, e5⟩
    · exact absurd e2 c
    · rw [e2] at q; exact absurd (by decide) q
    · rw [e2] at q; exact absurd (by decide) q
/-- what a look at items says, in both -/
theorem x_look {Ln Sz : Nat → Int32} {x1 x2 x3 x4 : Int32} {post : Int32 → Prop} (hB : ¬ (0 ≤ x1 ∧ x1 ≤ 3) ∨ ¬ (0 ≤ x2 ∧ x2 ≤ 1) → post (-1))
    (hN : ∀ s : Nat, s < 4 → x1 = nI s → (0 ≤ x1 ∧ x1 ≤ 3) → (0 ≤ x2 ∧ x2 ≤ 1) → Ln s = -1 → post (-11))
    (hC : ∀ s : Nat, s < 4 → x1 = nI s → (0 ≤ x1 ∧ x1 ≤ 3) → (0 ≤ x2 ∧ x2 ≤ 1) → Ln s ≠ -1 → Ln s ≠ x2 → post (-12))
    (hI : ∀ s : Nat, s < 4 → x1 = nI s → (0 ≤ x1 ∧ x1 ≤ 3) → (0 ≤ x2 ∧ x2 ≤ 1) → Ln s ≠ -1 → Ln s = x2 → ¬ (0 ≤ x3 ∧ x3 ≤ Sz s - x4) → post (-13))
    (hO : ∀ s : Nat, s < 4 → x1 = nI s → (0 ≤ x1 ∧ x1 ≤ 3) → (0 ≤ x2 ∧ x2 ≤ 1) → Ln s ≠ -1 → Ln s = x2 → (0 ≤ x3 ∧ x3 ≤ Sz s - x4) → post 1) : p_X4_lookAtItems Ln Sz x1 x2 x3 x4 post := by
  unfold p_X4_lookAtItems
  refine x_sheetT (fun c1 => z1 (x_laneT (fun c2 => z1 ?_) (fun c2 => z0 (hB (Or.inr c2))))) (fun c1 => z0 (hB (Or.inl c1)))
  obtain ⟨s, hs, e⟩ := sheet_of c1
  have hs4 : vp_in x1 4 := by rw [e]; exact pk_in s 4 hs
  have ec : x1.toNatClampNeg = s := by rw [e, nI_clamp (by omega)]
  rw [ec]
  refine ⟨hs4, ?_⟩
  unfold p_X1_isMissing p_X1_isOf p_X1_reaches
  refine ⟨fun c => z1 (hN s hs e c1 c2 c), fun c => z0 ⟨fun c3 => z1 ⟨fun c4 => z0 (hI s hs e c1 c2 c c3 (fun q => ?_)), fun c4 => ⟨fun c5 => z0 (hI s hs e c1 c2 c c3 (fun q => ?_)), fun c5 => z1 (hO s hs e c1 c2 c c3 ⟨le_not_lt.mpr c4, le_not_lt.mpr c5⟩)⟩⟩, fun c3 => z0 (hC s hs e c1 c2 c c3)⟩⟩
  · exact (le_not_lt.mp q.1) c4
  · exact (le_not_lt.mp q.2) c5
theorem lane_neg {x : Int32} (h : x = 0 ∨ x = 1) : 0 ≤ x := by rcases h with rfl | rfl <;> decide
theorem st_item {I : Nat → Nat → Int64} {Ln Sz la si it : Nat → Int32} (h : IS I Ln Sz la si it) (x1 x2 x3 x4 : Int32) {K : (Nat → Nat → Int64) → (Nat → Int32) → Prop} (hK : ∀ I' it', IS I' Ln Sz la si it' → K I' it') :
    p_X4_item I Ln Sz x1 x2 x3 x4 (fun r I' => p_X5_item la si it x1 x2 x3 x4 (fun r' it' => (r = r' → K I' it') ∧ (¬ r = r' → False))) := by
  unfold p_X4_item p_X5_item
  refine x_look (fun c => ⟨fun q => absurd q (by decide), fun _ => m_sheetF c (z0 (fin_eq rfl (hK _ _ h)))⟩) (fun s hs e c1 c2 c3 => ⟨fun q => absurd q (by decide), fun _ => m_sheetT c1 c2 (z1 ?_)⟩) (fun s hs e c1 c2 c3 c4 => ⟨fun q => absurd q (by decide), fun _ => m_sheetT c1 c2 (z1 ?_)⟩) (fun s hs e c1 c2 c3 c4 c5 => ⟨fun q => absurd q (by decide), fun _ => m_sheetT c1 c2 (z1 ?_)⟩) (fun s hs e c1 c2 c3 c4 c5 => ⟨fun _ => ?_, fun q => absurd rfl q⟩)
  all_goals
    subst e
    have hs4 : vp_in (nI s) 4 := pk_in s 4 hs
    obtain ⟨e1, e2, e3⟩ := h s hs
    rw [nI_clamp (by omega)]
  · rw [e1]
    refine ⟨hs4, fun q => ?_, fun q => ⟨hs4, fun q2 => ?_, fun q2 => fin_eq rfl (hK _ _ h)⟩⟩
    · have := lane_neg (lane_of c2)
      rw [← q, c3] at this; exact absurd this (by decide)
    · rw [c3] at q2; exact absurd q2 (by decide)
  · rw [e1]
    refine ⟨hs4, fun q => absurd q c4, fun q => ⟨hs4, fun q2 => fin_eq rfl (hK _ _ h), fun q2 => ?_⟩⟩
    rcases e2 with e2 | ⟨e2, -⟩
    · exact absurd e2 c3
    · exact absurd (lane_neg e2) q2
  · rcases e2 with e2 | ⟨e2, e4, k, hk, e5⟩
    · exact absurd e2 c3
    · rw [e1, e4]
      exact ⟨hs4, fun q => ⟨hs4, m_inF (a := 0) c5 (z0 (fin_eq rfl (hK _ _ h)))⟩, fun q => absurd c4 q⟩
  · rcases e2 with e2 | ⟨e2, e4, k, hk, e5⟩
    · exact absurd e2 c3
    · have hk1 : 1 ≤ k := by
        rcases Nat.eq_zero_or_pos k with z | z
        · subst z
          rw [e5] at c5
          have := Int32.le_trans c5.1 c5.2
          exact absurd this (by decide)
        · exact z
      have ek : Sz s - 1 = nI (k - 1) := by rw [e5]; exact pk_sub (b := 1) hk1
      obtain ⟨i, hi, rfl⟩ := n_of_le ek (by omega) c5.1 c5.2
      have hi36 : vp_in (nI i) 36 := pk_in i 36 (by omega)
      unfold p_X1_setItem
      refine ⟨hs4, hi36, m_sheetT c1 c2 (z1 ?_)⟩
      rw [e1, e4]
      refine ⟨hs4, fun q => ⟨hs4, m_inT (a := 0) c5 (z1 ?_)⟩, fun q => absurd c4 q⟩
      rw [n36, nI_clamp (show i < 2 ^ 31 by omega), nI_clamp (show 36 * s + i < 2 ^ 31 by omega)]
      refine ⟨pk_in (36 * s + i) 144 (by omega), fin_eq rfl (hK _ _ (fun t ht => ?_))⟩
      obtain ⟨f1, f2, f3⟩ := h t ht
      refine ⟨f1, f2, fun j hj => ?_⟩
      rw [va_up_at]
      by_cases et : t = s
      · subst et
        rw [if_pos rfl]
        by_cases ej : j = i
        · subst ej; rw [pk_uLs, pk_us]
        · rw [pk_uLn ej, pk_un (by omega)]; exact f3 j hj
      · rw [if_neg et, pk_un (by omega)]; exact f3 j hj
