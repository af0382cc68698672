/-! the reference makes its tableaux -/
def MT (w : Nat → Nat) (τ : Nat → Nat) (pp qq ro : Nat → Int32) : Prop :=
  ∀ r, r < 9 → ro r = nI (rL (BB w r) (τ r)) ∧ ∀ c, c < rL (BB w r) (τ r) → pp (40 * r + c) = nI (rF (BB w r) (τ r) c) ∧ qq (40 * r + c) = nI (qF (BB w r) (τ r) c)
theorem n40 (i j : Nat) : 40 * nI i + nI j = nI (40 * i + j) := by rw [show (40 : Int32) = nI 40 from rfl, pk_mul, nI_add]
theorem tau_eq {r r' k : Nat} (e : r' ≠ r) : (if r' < r + 1 then k + 1 else k) = (if r' < r then k + 1 else k) := by
  by_cases z : r' < r
  · rw [if_pos z, if_pos (by omega)]
  · rw [if_neg z, if_neg (by omega)]
theorem m_ins51 {w : Nat → Nat} {k r : Nat} (hw : ∀ t, w t = 0 ∨ (1 ≤ w t ∧ w t ≤ 9)) (hk : k < 40) (hr : r < 9) (h1 : BB w r k ≠ 0) {x1 : Int32} {post : (Nat → Int32) → (Nat → Int32) → (Nat → Int32) → Prop} {k8 : (Nat → Int32) → (Nat → Int32) → (Nat → Int32) → Int32 → Int32 → Int32 → Prop} {pp qq ro : Nat → Int32} (hM : MT w (fun r' => if r' < r then k + 1 else k) pp qq ro) (hb : ∀ pp', BB w (r + 1) k ≠ 0 → MT w (fun r' => if r' < r + 1 then k + 1 else k) pp' qq ro → k8 pp' qq ro (nI (BB w (r + 1) k)) (nI (r + 1)) 1) (hg : ∀ pp' qq' ro', MT w (fun _ => k + 1) pp' qq' ro' → k8 pp' qq' ro' 0 (nI (r + 1)) 0) : p_X5_insert_51 x1 (nI (k + 1)) post k8 pp qq ro (nI (BB w r k)) (nI r) (nI (cw (BB w r) k)) := by
  have hin := rw_in (BB_in hw r) k
  have hlk := rL_le (BB w r) k
  have hcl := cw_le (BB w r) k
  obtain ⟨t1, t2⟩ := hM r hr
  dsimp only at t1 t2
  rw [if_neg (Nat.lt_irrefl r)] at t1 t2
  have hr9 : vp_in (nI r) 9 := pk_in r 9 hr
  have hrc : vp_in (nI (40 * r + cw (BB w r) k)) 360 := pk_in (40 * r + cw (BB w r) k) 360 (by omega)
  unfold p_X5_insert_51 p_X5_insert_68 p_X5_insert_92 p_X5_insert_138
  rw [nI_clamp (show r < 2 ^ 31 by omega), n40, nI_clamp (show 40 * r + cw (BB w r) k < 2 ^ 31 by omega), t1, nI_1, nI_1]
  refine ⟨hr9, pk_le (rL (BB w r) k) (cw (BB w r) k) (fun q => z0 ⟨hrc, z0 ⟨hrc, hr9, hr9, ?_⟩⟩) (fun q => z1 ⟨hrc, hrc, z1 ?_⟩)⟩
  · obtain ⟨b1, b2, b3, b4⟩ := rw_grow h1 (by omega)
    refine hg _ _ _ (fun r' hr' => ?_)
    dsimp only
    rw [upd_at]
    by_cases e : r' = r
    · subst e
      rw [if_pos rfl, b1]
      refine ⟨rfl, fun c hc => ?_⟩
      by_cases ec : c = cw (BB w r') k
      · exact ⟨by rw [upd_at, rw_F h1, if_pos (by omega), if_pos ec], by rw [upd_at, b3, if_pos (by omega), if_pos ec]⟩
      · exact ⟨by rw [upd_at, rw_F h1, if_neg (by omega), if_neg ec]; exact (t2 c (by omega)).1, by rw [upd_at, b3, if_neg (by omega), if_neg ec]; exact (t2 c (by omega)).2⟩
    · rw [if_neg e]
      obtain ⟨u1, u2⟩ := hM r' hr'
      dsimp only at u1 u2
      by_cases z : r' < r
      · rw [if_pos z] at u1 u2
        refine ⟨u1, fun c hc => ?_⟩
        have := rL_le (BB w r') (k + 1)
        rw [upd_at, upd_at, if_neg (by omega), if_neg (by omega)]; exact u2 c hc
      · rw [if_neg z] at u1 u2
        obtain ⟨v1, v2, -, v4⟩ := rw_0 ((gw_rows hw h1 b2).2.2 r' (by omega))
        rw [v1, v2, v4]
        refine ⟨u1, fun c hc => ?_⟩
        have := rL_le (BB w r') k
        rw [upd_at, upd_at, if_neg (by omega), if_neg (by omega)]; exact u2 c hc
  · obtain ⟨b1, b2, b3⟩ := rw_bump h1 q
    have hbb := hin _ q
    rw [(t2 _ q).1]
    have e0 : rF (BB w r) k (cw (BB w r) k) = BB w (r + 1) k := b2.symm
    rw [e0]
    refine hb _ (by omega) (fun r' hr' => ?_)
    dsimp only
    by_cases e : r' = r
    · subst e
      rw [if_pos (by omega), b1, b3]
      refine ⟨t1, fun c hc => ?_⟩
      rw [upd_at, rw_F h1]
      by_cases ec : c = cw (BB w r') k
      · rw [if_pos (by omega), if_pos ec]; exact ⟨rfl, (t2 c hc).2⟩
      · rw [if_neg (by omega), if_neg ec]; exact t2 c hc
    · obtain ⟨u1, u2⟩ := hM r' hr'
      dsimp only at u1 u2
      rw [tau_eq e]
      refine ⟨u1, fun c hc => ?_⟩
      have h40 : rL (BB w r') (if r' < r then k + 1 else k) ≤ 40 := by
        have y1 := rL_le (BB w r') (k + 1)
        have y2 := rL_le (BB w r') k
        by_cases z : r' < r
        · rw [if_pos z]; omega
        · rw [if_neg z]; omega
      rw [upd_at, if_neg (by omega)]; exact u2 c hc
theorem m_insert {w : Nat → Nat} {k : Nat} (hw : ∀ t, w t = 0 ∨ (1 ≤ w t ∧ w t ≤ 9)) (h0 : w k ≠ 0) (hk : k < 40) {pp qq ro : Nat → Int32} (hM : MT w (fun _ => k) pp qq ro) {post : (Nat → Int32) → (Nat → Int32) → (Nat → Int32) → Prop} (h : ∀ pp' qq' ro', MT w (fun _ => k + 1) pp' qq' ro' → post pp' qq' ro') : p_X5_insert pp qq ro (nI (w k)) (nI (k + 1)) post := by
  unfold p_X5_insert
  refine pk_loop (fun u r (s : ((Nat → Int32) × (Nat → Int32) × (Nat → Int32)) × (Int32 × Int32)) => p_X5_insert_8 (nI (w k)) (nI (k + 1)) post u s.1.1 s.1.2.1 s.1.2.2 s.2.1 (nI r) s.2.2) (fun r s => (s.2.2 = 0 ∧ MT w (fun _ => k + 1) s.1.1 s.1.2.1 s.1.2.2) ∨ (s.2.2 = 1 ∧ BB w r k ≠ 0 ∧ s.2.1 = nI (BB w r k) ∧ MT w (fun r' => if r' < r then k + 1 else k) s.1.1 s.1.2.1 s.1.2.2)) 9 0 ((pp, qq, ro), (nI (w k), 1)) (by omega) (Or.inr ⟨rfl, h0, rfl, fun r hr => ?_⟩) (fun u s hs => ?_) (fun u r s hr hs ih => ?_)
  · dsimp only
    rw [if_neg (Nat.not_lt_zero r)]; exact hM r hr
  · rcases hs with ⟨e, hs⟩ | ⟨-, q, -⟩
    · show p_X5_insert_8 _ _ _ _ _ _ _ _ _ _
      unfold p_X5_insert_8
      rw [e]
      exact z0 (h _ _ _ hs)
    · have := BB_in hw 9 k
      exact absurd q (by omega)
  · show p_X5_insert_8 _ _ _ _ _ _ _ _ _ _
    unfold p_X5_insert_8
    rcases hs with ⟨e, hs⟩ | ⟨e, h1, e2, hs⟩
    · rw [e]
      exact z0 (h _ _ _ hs)
    · rw [e, e2]
      refine z1 ?_
      have hin := rw_in (BB_in hw r) k
      have hlk := rL_le (BB w r) k
      have hBr := BB_in hw r k
      have h51 := m_ins51 (x1 := nI (w k)) (post := post) (k8 := fun pp qq ro x3 x4 x5 => p_X5_insert_8 (nI (w k)) (nI (k + 1)) post u pp qq ro x3 x4 x5) hw hk hr h1 hs (fun pp' b1 b2 => ih ((pp', _, _), (_, 1)) (Or.inr ⟨rfl, b1, rfl, b2⟩)) (fun pp' qq' ro' b => ih ((pp', qq', ro'), (0, 0)) (Or.inl ⟨rfl, b⟩))
      obtain ⟨t1, t2⟩ := hs r hr
      dsimp only at t1 t2
      rw [if_neg (Nat.lt_irrefl r)] at t1 t2
      refine pk_loop (fun v c (_ : Unit) => p_X5_insert_16 (nI (w k)) (nI (k + 1)) post (fun pp qq ro x3 x4 x5 => p_X5_insert_8 (nI (w k)) (nI (k + 1)) post u pp qq ro x3 x4 x5) v s.1.1 s.1.2.1 s.1.2.2 (nI (BB w r k)) (nI r) (nI c)) (fun c _ => ∀ j, j < c → rF (BB w r) k j ≤ BB w r k) (rL (BB w r) k) 0 () (by omega) (fun j hj => by omega) (fun v _ hc => ?_) (fun v c _ hc hs' ih2 => ?_)
      · show p_X5_insert_16 _ _ _ _ _ _ _ _ _ _ _
        unfold p_X5_insert_16
        have e3 : rL (BB w r) k = cw (BB w r) k := fg_uni (Nat.le_refl _) hc (fun q => by omega)
        rw [nI_clamp (by omega), t1]
        refine ⟨pk_in r 9 hr, pk_le (rL (BB w r) k) (rL (BB w r) k) (fun _ => ?_) (fun q => by omega)⟩
        rw [← e3] at h51; exact h51
      · show p_X5_insert_16 _ _ _ _ _ _ _ _ _ _ _
        unfold p_X5_insert_16
        have hfc := hin c hc
        rw [nI_clamp (by omega), t1, n40, nI_clamp (by omega), (t2 c hc).1, nI_1]
        refine ⟨pk_in r 9 hr, pk_le (rL (BB w r) k) c (fun q => by omega) (fun _ => ⟨pk_in (40 * r + c) 360 (by omega), pk_lt (BB w r k) (rF (BB w r) k c) (fun q => ?_) (fun q => ih2 () (fun j hj => ?_))⟩)⟩
        · have e3 : c = cw (BB w r) k := fg_uni (by omega) hs' (fun _ => q)
          rw [← e3] at h51; exact h51
        · by_cases ej : j = c
          · subst ej; exact q
          · exact hs' j (by omega)
theorem m_make {w : Nat → Nat} {k : Nat} (hw : isW w k) (hk : k ≤ 40) {wo pp qq ro : Nat → Int32} (hwo : ∀ t, t < k → wo t = nI (w t)) {post : (Nat → Int32) → (Nat → Int32) → (Nat → Int32) → Prop} (h : ∀ pp' qq' ro', MT w (fun _ => k) pp' qq' ro' → post pp' qq' ro') : p_X5_makeTableaux wo (nI k) pp qq ro post := by
  unfold p_X5_makeTableaux
  refine pk_loop (fun u r ro => p_X5_makeTableaux_2 wo (nI k) post u pp qq ro (nI r)) (fun r ro => ∀ j, j < r → ro j = 0) 9 0 ro (by omega) (fun j hj => by omega) (fun u ro' hr => ?_) (fun u r ro' hr hro ih => ?_)
  · show p_X5_makeTableaux_2 _ _ _ _ _ _ _ _
    unfold p_X5_makeTableaux_2
    refine pk_le 9 9 (fun _ => ?_) (fun q => by omega)
    refine pk_loop (fun u t (s : (Nat → Int32) × (Nat → Int32) × (Nat → Int32)) => p_X5_makeTableaux_23 wo (nI k) post u s.1 s.2.1 s.2.2 (nI t)) (fun t s => MT w (fun _ => t) s.1 s.2.1 s.2.2) k 0 (pp, qq, ro') (by omega) (fun r hr9 => ⟨hr r hr9, fun c hc => absurd hc (Nat.not_lt_zero c)⟩) (fun u s hs => ?_) (fun u t s ht hs ih => ?_)
    · show p_X5_makeTableaux_23 _ _ _ _ _ _ _ _
      unfold p_X5_makeTableaux_23
      exact pk_le k k (fun _ => h _ _ _ hs) (fun q => by omega)
    · show p_X5_makeTableaux_23 _ _ _ _ _ _ _ _
      unfold p_X5_makeTableaux_23
      rw [nI_clamp (by omega), hwo t ht, nI_1]
      refine pk_le k t (fun q => by omega) (fun _ => ⟨pk_in t 40 (by omega), m_insert hw.all (by have := (hw t).1 ht; omega) (by omega) hs (fun pp' qq' ro' hM => ih (pp', qq', ro') hM)⟩)
  · show p_X5_makeTableaux_2 _ _ _ _ _ _ _ _
    unfold p_X5_makeTableaux_2
    rw [nI_clamp (by omega), nI_1]
    refine pk_le 9 r (fun q => by omega) (fun _ => ⟨pk_in r 9 hr, ih _ (fun j hj => ?_)⟩)
    rw [upd_at]
    by_cases e : j = r
    · rw [if_pos e]
    · rw [if_neg e]; exact hro j (by omega)
