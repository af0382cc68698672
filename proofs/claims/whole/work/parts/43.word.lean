/-! the word: letter, clear, row, place -/
def IW (pR pP : Int32) (pL : Nat → Int32) (pN : Nat → Nat → Int32) (qR qP : Int32) (qL : Nat → Int32) (qN : Nat → Nat → Int32) (wo : Nat → Int32) (le : Int32) : Prop :=
  ∃ (w : Nat → Nat) (k : Nat), isW w k ∧ k ≤ 40 ∧ le = nI k ∧ (∀ t, t < k → wo t = nI (w t)) ∧ WP w k pR pP pL pN ∧ WQ w k qR qP qL qN
theorem BBk_congr {w v : Nat → Nat} {k : Nat} (h : ∀ t, t < k → w t = v t) (r : Nat) : rL (BB w r) k = rL (BB v r) k ∧ rF (BB w r) k = rF (BB v r) k ∧ qF (BB w r) k = qF (BB v r) k := by
  have e := rw_congr k (BB_congr h r)
  exact ⟨by unfold rL; rw [e], by unfold rF; rw [e], qF_congr k (BB_congr h r)⟩
theorem WP.congr {w v : Nat → Nat} {k : Nat} (h : ∀ t, t < k → w t = v t) {R P : Int32} {L : Nat → Int32} {N : Nat → Nat → Int32} (hP : WP w k R P L N) : WP v k R P L N := by
  obtain ⟨h1, h2, n, hn, h3, h4⟩ := hP
  refine ⟨h1, fun r hr => ?_, n, hn, h3, fun r hr => ?_⟩
  · obtain ⟨e1, e2, e3⟩ := BBk_congr h r
    have := h2 r hr
    dsimp only at this ⊢
    rw [← e1, ← e2]; exact this
  · rw [← (BBk_congr h r).1]; exact h4 r hr
theorem WQ.congr {w v : Nat → Nat} {k : Nat} (h : ∀ t, t < k → w t = v t) {R P : Int32} {L : Nat → Int32} {N : Nat → Nat → Int32} (hP : WQ w k R P L N) : WQ v k R P L N := by
  obtain ⟨h1, h2, n, hn, h3, h4⟩ := hP
  refine ⟨h1, fun r hr => ?_, n, hn, h3, fun r hr => ?_⟩
  · obtain ⟨e1, e2, e3⟩ := BBk_congr h r
    have := h2 r hr
    dsimp only at this ⊢
    rw [← e1, ← e3]; exact this
  · rw [← (BBk_congr h r).1]; exact h4 r hr
theorem W_0 (w : Nat → Nat) {L L' : Nat → Int32} {N N' : Nat → Nat → Int32} (h : ∀ r, r < 9 → L r = 0) (h' : ∀ r, r < 9 → L' r = 0) : WP w 0 0 0 L N ∧ WQ w 0 0 0 L' N' :=
  ⟨⟨rfl, fun r hr => ⟨h r hr, fun c hc => absurd hc (Nat.not_lt_zero c)⟩, 0, by omega, rfl, fun r _ => ⟨fun q => absurd q (Nat.not_lt_zero r), fun q => absurd q (Nat.lt_irrefl 0)⟩⟩,
   ⟨rfl, fun r hr => ⟨h' r hr, fun c hc => absurd hc (Nat.not_lt_zero c)⟩, 0, by omega, rfl, fun r _ => ⟨fun q => absurd q (Nat.not_lt_zero r), fun q => absurd q (Nat.lt_irrefl 0)⟩⟩⟩
theorem x_empty {R P : Int32} {L : Nat → Int32} {post : Int32 → Int32 → (Nat → Int32) → Prop} (h : ∀ L', (∀ r, r < 9 → L' r = 0) → post 0 0 L') : p_X2_empty R P L post := by
  unfold p_X2_empty
  exact s_fill (by decide) (fun f hf _ => h f hf)
theorem x_forget {pR pP qR qP : Int32} {pL qL : Nat → Int32} {post : Int32 → Int32 → (Nat → Int32) → Int32 → Int32 → (Nat → Int32) → Prop} (h : ∀ L L', (∀ r, r < 9 → L r = 0) → (∀ r, r < 9 → L' r = 0) → post 0 0 L 0 0 L') : p_X3_forget pR pP pL qR qP qL post := by
  unfold p_X3_forget
  exact x_empty (fun L hL => x_empty (fun L' hL' => h L L' hL hL'))
theorem x_become {w : Nat → Nat} {k : Nat} (hw : isW w k) (hk : k ≤ 40) {f : Nat → Int32} (hf : ∀ t, t < k → f t = nI (w t)) {pR pP qR qP : Int32} {pL qL : Nat → Int32} {pN qN : Nat → Nat → Int32} {post : Int32 → Int32 → (Nat → Int32) → (Nat → Nat → Int32) → Int32 → Int32 → (Nat → Int32) → (Nat → Nat → Int32) → Prop} (h : ∀ pR' pP' pL' pN' qR' qP' qL' qN', WP w k pR' pP' pL' pN' → WQ w k qR' qP' qL' qN' → post pR' pP' pL' pN' qR' qP' qL' qN') : p_X3_become f pR pP pL pN qR qP qL qN (nI k) post := by
  unfold p_X3_become
  refine x_forget (fun L L' hL hL' => ?_)
  obtain ⟨a, b⟩ := W_0 (N := pN) (N' := qN) w hL hL'
  refine pk_loop (fun u t (s : (Int32 × Int32 × (Nat → Int32) × (Nat → Nat → Int32)) × (Int32 × Int32 × (Nat → Int32) × (Nat → Nat → Int32))) => p_X3_become_6 f (nI k) post u s.1.1 s.1.2.1 s.1.2.2.1 s.1.2.2.2 s.2.1 s.2.2.1 s.2.2.2.1 s.2.2.2.2 (nI t)) (fun t s => WP w t s.1.1 s.1.2.1 s.1.2.2.1 s.1.2.2.2 ∧ WQ w t s.2.1 s.2.2.1 s.2.2.2.1 s.2.2.2.2) k 0 ((0, 0, L, pN), (0, 0, L', qN)) (by omega) ⟨a, b⟩ (fun u s hs => ?_) (fun u t s ht hs ih => ?_)
  · show p_X3_become_6 _ _ _ _ _ _ _ _ _ _ _ _ _
    unfold p_X3_become_6
    exact pk_le k k (fun _ => h _ _ _ _ _ _ _ _ hs.1 hs.2) (fun q => by omega)
  · show p_X3_become_6 _ _ _ _ _ _ _ _ _ _ _ _ _
    unfold p_X3_become_6
    rw [nI_clamp (by omega), hf t ht, nI_1]
    exact pk_le k t (fun q => by omega) (fun _ => ⟨pk_in t 40 (by omega), x_takeLetter hw.all (by have := (hw t).1 ht; omega) (by omega) hs.1 hs.2 (fun pR' pP' pL' pN' qR' qP' qL' qN' a b => ih ((pR', pP', pL', pN'), (qR', qP', qL', qN')) ⟨a, b⟩)⟩)
theorem x_takeLetter2 {w : Nat → Nat} {k : Nat} {v : Int32} (hv : v = nI (w k)) (hw : ∀ t, w t = 0 ∨ (1 ≤ w t ∧ w t ≤ 9)) (h0 : w k ≠ 0) (hk : k < 40) {pR pP qR qP : Int32} {pL qL : Nat → Int32} {pN qN : Nat → Nat → Int32} (hP : WP w k pR pP pL pN) (hQ : WQ w k qR qP qL qN) {post : Int32 → Int32 → (Nat → Int32) → (Nat → Nat → Int32) → Int32 → Int32 → (Nat → Int32) → (Nat → Nat → Int32) → Prop} (h : ∀ pR' pP' pL' pN' qR' qP' qL' qN', WP w (k + 1) pR' pP' pL' pN' → WQ w (k + 1) qR' qP' qL' qN' → post pR' pP' pL' pN' qR' qP' qL' qN') : p_X3_takeLetter pR pP pL pN qR qP qL qN v post := by
  subst hv
  exact x_takeLetter hw h0 hk hP hQ h
theorem st_letter {pR pP qR qP le : Int32} {pL qL wo : Nat → Int32} {pN qN : Nat → Nat → Int32} (h : IW pR pP pL pN qR qP qL qN wo le) (x1 : Int32) {K : Int32 → Int32 → (Nat → Int32) → (Nat → Nat → Int32) → Int32 → Int32 → (Nat → Int32) → (Nat → Nat → Int32) → (Nat → Int32) → Int32 → Prop} (hK : ∀ pR' pP' pL' pN' qR' qP' qL' qN' wo' le', IW pR' pP' pL' pN' qR' qP' qL' qN' wo' le' → K pR' pP' pL' pN' qR' qP' qL' qN' wo' le') :
    p_X4_letter pR pP pL pN qR qP qL qN x1 (fun r pR' pP' pL' pN' qR' qP' qL' qN' => p_X5_letter wo le x1 (fun r' wo' le' => (r = r' → K pR' pP' pL' pN' qR' qP' qL' qN' wo' le') ∧ (¬ r = r' → False))) := by
  obtain ⟨w, k, hw, hk, rfl, hwo, hP, hQ⟩ := id h
  unfold p_X4_letter p_X5_letter p_X3_letterCount p_X2_placeCount
  refine x_within (fun c => z1 ?_) (fun c => z0 (m_inF (a := 1) c (z0 (fin_eq rfl (hK _ _ _ _ _ _ _ _ _ _ h)))))
  have eP := hP.1
  subst eP
  refine pk_lt k 40 (fun q => ?_) (fun q => m_inT (a := 1) c (z1 (pk_eq k 40 (fun _ => fin_eq rfl (hK _ _ _ _ _ _ _ _ _ _ h)) (fun q2 => by omega))))
  obtain ⟨x, hx, rfl⟩ := n_of_le (show (9 : Int32) = nI 9 from rfl) (by omega) (Int32.le_trans (by decide) c.1) c.2
  have hx1 : 1 ≤ x := (nI_leI (a := 1) (by decide) (by omega)).mp c.1
  have hcg : ∀ t, t < k → w t = (fun t => if t = k then x else w t) t := fun t ht => by dsimp only; rw [if_neg (by omega)]
  have hw' := hw.next hx1 hx
  have e : nI x = nI ((fun t => if t = k then x else w t) k) := by dsimp only; rw [if_pos rfl]
  refine x_takeLetter2 (w := fun t => if t = k then x else w t) e hw'.all (by rw [if_pos rfl]; omega) q (hP.congr hcg) (hQ.congr hcg) (fun pR' pP' pL' pN' qR' qP' qL' qN' a b => m_inT (a := 1) c (z1 (pk_eq k 40 (fun q2 => by omega) (fun _ => ⟨pk_in k 40 q, fin_eq ?_ (hK _ _ _ _ _ _ _ _ _ _ ⟨fun t => if t = k then x else w t, k + 1, hw', by omega, by rw [nI_1], fun t ht => ?_, a, b⟩)⟩))))
  · rw [nI_1]; exact a.1
  · rw [nI_clamp (by omega), upd_at]
    dsimp only
    by_cases et : t = k
    · rw [if_pos et, if_pos et]
    · rw [if_neg et, if_neg et]; exact hwo t (by omega)
theorem st_clear {pR pP qR qP le : Int32} {pL qL wo : Nat → Int32} {pN qN : Nat → Nat → Int32} (h : IW pR pP pL pN qR qP qL qN wo le) {K : Int32 → Int32 → (Nat → Int32) → Int32 → Int32 → (Nat → Int32) → Int32 → Prop} (hK : ∀ pR' pP' pL' qR' qP' qL' le', IW pR' pP' pL' pN qR' qP' qL' qN wo le' → K pR' pP' pL' qR' qP' qL' le') :
    p_X4_clear pR pP pL qR qP qL (fun r pR' pP' pL' qR' qP' qL' => p_X5_clear le (fun r' le' => (r = r' → K pR' pP' pL' qR' qP' qL' le') ∧ (¬ r = r' → False))) := by
  obtain ⟨w, k, hw, hk, rfl, hwo, hP, hQ⟩ := id h
  unfold p_X4_clear p_X5_clear p_X3_letterCount p_X2_placeCount
  refine x_forget (fun L L' hL hL' => fin_eq hP.1 (hK _ _ _ _ _ _ _ ⟨fun _ => 0, 0, isW_0, by omega, rfl, fun t ht => absurd ht (Nat.not_lt_zero t), (W_0 (N' := qN) _ hL hL').1, (W_0 (N := pN) _ hL hL').2⟩))
theorem st_row {pR pP qR qP le : Int32} {pL qL wo : Nat → Int32} {pN qN : Nat → Nat → Int32} (h : IW pR pP pL pN qR qP qL qN wo le) (pp qq ro : Nat → Int32) (x1 : Int32) {K : (Nat → Int32) → (Nat → Int32) → (Nat → Int32) → Prop} (hK : ∀ pp' qq' ro', K pp' qq' ro') :
    p_X4_row pL qL x1 (fun r => p_X5_row wo le pp qq ro x1 (fun r' pp' qq' ro' => (r = r' → K pp' qq' ro') ∧ (¬ r = r' → False))) := by
  obtain ⟨w, k, hw, hk, rfl, hwo, hP, hQ⟩ := h
  unfold p_X4_row p_X5_row
  refine x_within (fun c => z1 (z0 ?_)) (fun c => z0 (m_inF (a := 0) c (z0 (fin_eq rfl (hK _ _ _)))))
  obtain ⟨r, hr, rfl⟩ := n_of_le (show (8 : Int32) = nI 8 from rfl) (by omega) c.1 c.2
  refine x_len (by omega) (m_inT (a := 0) c (z1 (m_make hw hk hwo (fun pp' qq' ro' hM => ?_))))
  rw [nI_clamp (by omega)]
  exact ⟨pk_in r 9 (by omega), fin_eq (by rw [(hP.2.1 r (by omega)).1, (hM r (by omega)).1]) (hK _ _ _)⟩
theorem x_which {x : Int32} {post : Int32 → Prop} (h1 : 0 ≤ x ∧ x ≤ 1 → post 1) (h0 : ¬ (0 ≤ x ∧ x ≤ 1) → post 0) : p_X4_isWhich x post := by
  unfold p_X4_isWhich
  exact x_within (fun c => ⟨rfl, h1 c⟩) (fun c => ⟨rfl, h0 c⟩)
theorem x_at {L : Nat → Int32} {N : Nat → Nat → Int32} {r l c : Nat} (hr : r < 9) (hL : L r = nI l) (hl : l ≤ 40) (hc : c < l) {post : Int32 → Prop} (h : post (N r c)) : p_X2_at L N (nI r) (nI c) post := by
  unfold p_X2_at
  refine x_has hr hL (by omega) (by omega) (fun _ => z1 ⟨pk_in r 9 hr, pk_in c 40 (by omega), ?_⟩) (fun q => by omega)
  rw [nI_clamp (by omega), nI_clamp (by omega)]; exact h
theorem st_place {pR pP qR qP le : Int32} {pL qL wo : Nat → Int32} {pN qN : Nat → Nat → Int32} (h : IW pR pP pL pN qR qP qL qN wo le) (pp qq ro : Nat → Int32) (x1 x2 x3 : Int32) {K : (Nat → Int32) → (Nat → Int32) → (Nat → Int32) → Prop} (hK : ∀ pp' qq' ro', K pp' qq' ro') :
    p_X4_place pL pN qL qN x1 x2 x3 (fun r => p_X5_place wo le pp qq ro x1 x2 x3 (fun r' pp' qq' ro' => (r = r' → K pp' qq' ro') ∧ (¬ r = r' → False))) := by
  obtain ⟨w, k, hw, hk, rfl, hwo, hP, hQ⟩ := h
  unfold p_X4_place p_X5_place
  refine x_which (fun c => z1 ?_) (fun c => z0 (m_inF (a := 0) c (z0 (fin_eq rfl (hK _ _ _)))))
  refine x_within (fun c2 => z1 ?_) (fun c2 => z0 (m_inT (a := 0) c (z1 (m_inF (a := 0) c2 (z0 (fin_eq rfl (hK _ _ _)))))))
  refine ⟨fun c3 => ?_, fun c3 => m_inT (a := 0) c (z1 (m_inT (a := 0) c2 (z1 ⟨fun q => absurd q c3, fun _ => fin_eq rfl (hK _ _ _)⟩)))⟩
  obtain ⟨r, hr, rfl⟩ := n_of_le (show (8 : Int32) = nI 8 from rfl) (by omega) c2.1 c2.2
  obtain ⟨d, hd, rfl⟩ := n_of c3
  obtain ⟨hp1, hp2⟩ := hP.2.1 r (by omega)
  obtain ⟨hq1, hq2⟩ := hQ.2.1 r (by omega)
  dsimp only at hp1 hp2 hq1 hq2
  have hl := rL_le (BB w r) k
  have hm : ∀ (v : Int32), (∀ pp' qq' ro', MT w (fun _ => k) pp' qq' ro' → (d < rL (BB w r) k → v = if x1 = 0 then pp' (40 * r + d) else qq' (40 * r + d)) ∧ (¬ d < rL (BB w r) k → v = -4)) → p_X5_place wo (nI k) pp qq ro x1 (nI r) (nI d) (fun r' pp' qq' ro' => (v = r' → K pp' qq' ro') ∧ (¬ v = r' → False)) := by
    intro v hv
    unfold p_X5_place
    refine m_inT (a := 0) c (z1 (m_inT (a := 0) c2 (z1 ⟨fun _ => m_make hw hk hwo (fun pp' qq' ro' hM => ?_), fun q => absurd c3 q⟩)))
    obtain ⟨m1, m2⟩ := hM r (by omega)
    obtain ⟨v1, v2⟩ := hv pp' qq' ro' hM
    dsimp only at m1 m2
    rw [nI_clamp (by omega), m1, n40]
    refine ⟨pk_in r 9 (by omega), pk_lt d (rL (BB w r) k) (fun q => ?_) (fun q => fin_eq (v2 (by omega)) (hK _ _ _))⟩
    rw [nI_clamp (by omega)]
    have hin : vp_in (nI (40 * r + d)) 360 := pk_in (40 * r + d) 360 (by omega)
    have v1 := v1 q
    refine ⟨fun e => ⟨hin, fin_eq ?_ (hK _ _ _)⟩, fun e => ⟨hin, fin_eq ?_ (hK _ _ _)⟩⟩
    · rw [v1, if_pos e]
    · rw [v1, if_neg e]
  unfold p_X5_place at hm
  refine ⟨fun e => x_has (by omega) hp1 (by omega) hd (fun q => z1 (x_at (by omega) hp1 (by omega) q (hm _ (fun pp' qq' ro' hM => ⟨fun _ => ?_, fun q2 => absurd q q2⟩)))) (fun q => z0 (hm _ (fun pp' qq' ro' hM => ⟨fun q2 => by omega, fun _ => rfl⟩))), fun e => x_has (by omega) hq1 (by omega) hd (fun q => z1 (x_at (by omega) hq1 (by omega) q (hm _ (fun pp' qq' ro' hM => ⟨fun _ => ?_, fun q2 => absurd q q2⟩)))) (fun q => z0 (hm _ (fun pp' qq' ro' hM => ⟨fun q2 => by omega, fun _ => rfl⟩)))⟩
  · rw [if_pos e, hp2 d q, ((hM r (by omega)).2 d q).1]
  · rw [if_neg e, hq2 d q, ((hM r (by omega)).2 d q).2]
