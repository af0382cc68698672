/-! letters into P and Q, in both -/
theorem x_len {L : Nat → Int32} {r : Nat} (hr : r < 9) {post : Int32 → Prop} (h : post (L r)) : p_X2_lengthOf L (nI r) post := by
  unfold p_X2_lengthOf
  refine pk_lt r 0 (fun q => by omega) (fun _ => pk_le 9 r (fun q => by omega) (fun _ => ⟨pk_in r 9 hr, ?_⟩))
  rw [nI_clamp (by omega)]; exact h
theorem x_has {L : Nat → Int32} {r l c : Nat} (hr : r < 9) (hL : L r = nI l) (hl : l < 2 ^ 31) (hc : c < 2 ^ 31) {post : Int32 → Prop} (h1 : c < l → post 1) (h0 : l ≤ c → post 0) : p_X2_has L (nI r) (nI c) post := by
  unfold p_X2_has
  refine pk_lt c 0 (fun q => by omega) (fun _ => x_len hr ?_)
  rw [hL]
  exact pk_le l c (fun q => h0 q) (fun q => h1 q)
theorem x_fg {L : Nat → Int32} {N : Nat → Nat → Int32} {f : Nat → Nat} {r l x : Nat} (hr : r < 9) (hL : L r = nI l) (hl : l ≤ 40) (hf : ∀ c, c < l → N r c = nI (f c)) (hb : ∀ c, c < l → f c < 2 ^ 31) (hx : x < 2 ^ 31) {post : Int32 → Prop} (h : post (nI (fg f x l))) : p_X2_firstGreater L N (nI r) (nI x) post := by
  unfold p_X2_firstGreater
  refine x_len hr ?_
  rw [hL]
  refine pk_loop (fun u c (_ : Unit) => p_X2_firstGreater_9 L N (nI r) (nI x) post u (nI l) (nI c)) (fun c _ => ∀ j, j < c → f j ≤ x) l 0 () (by omega) (fun j hj => by omega) (fun u s hs => ?_) (fun u c s hc hs ih => ?_)
  · show p_X2_firstGreater_9 _ _ _ _ _ _ _ _
    unfold p_X2_firstGreater_9
    refine pk_le l l (fun _ => ?_) (fun q => by omega)
    have e : l = fg f x l := fg_uni (Nat.le_refl l) hs (fun q => by omega)
    rw [← e] at h; exact h
  · show p_X2_firstGreater_9 _ _ _ _ _ _ _ _
    unfold p_X2_firstGreater_9
    rw [nI_clamp (by omega), nI_clamp (by omega), hf c hc, nI_1]
    refine pk_le l c (fun q => by omega) (fun _ => ⟨pk_in r 9 hr, pk_in c 40 (by omega), pk_le (f c) x (fun q => ih () (fun j hj => ?_)) (fun q => ?_) rfl rfl (hb c hc) hx⟩)
    · by_cases e : j = c
      · subst e; exact q
      · exact hs j (by omega)
    · have e : c = fg f x l := fg_uni (by omega) hs (fun _ => q)
      rw [← e] at h; exact h
theorem x_append {L : Nat → Int32} {N : Nat → Nat → Int32} {R : Int32} {r l k n : Nat} (hr : r < 9) (hL : L r = nI l) (hl : l < 40) (hk : k < 40) (hn : n ≤ 9) (hR : R = nI n) {v : Int32} {post : Int32 → Int32 → (Nat → Int32) → (Nat → Nat → Int32) → Prop} (h : post (nI (max n (r + 1))) (nI (k + 1)) (upd L r (nI (l + 1))) (up2 N r (upd (N r) l v))) : p_X2_append R (nI k) L N (nI r) v post := by
  unfold p_X2_append
  have hr9 : vp_in (nI r) 9 := pk_in r 9 hr
  refine x_within (fun _ => z1 (pk_lt k 40 (fun _ => ⟨hr9, hr9, ?_, hr9, hr9, ?_⟩) (fun q => by omega))) (fun q => absurd ⟨nI_pos' (by omega), nI_le (b := 8) (by omega) (by decide)⟩ q)
  · rw [nI_clamp (by omega), hL]; exact pk_in l 40 hl
  · rw [nI_clamp (by omega), hL, hR, nI_1, nI_1, nI_1, nI_clamp (by omega)]
    have e : (if nI n < nI (r + 1) then nI (r + 1) else nI n) = nI (max n (r + 1)) := by
      by_cases q : n < r + 1
      · rw [if_pos (nI_lt q (by omega)), Nat.max_eq_right (by omega)]
      · rw [if_neg (nI_nlt (by omega) (by omega)), Nat.max_eq_left (by omega)]
    rw [e]; exact h
/-- rows at their times -/
def TR (f : (Nat → Nat) → Nat → Nat → Nat) (w : Nat → Nat) (τ : Nat → Nat) (L : Nat → Int32) (N : Nat → Nat → Int32) : Prop :=
  ∀ r, r < 9 → L r = nI (rL (BB w r) (τ r)) ∧ ∀ c, c < rL (BB w r) (τ r) → N r c = nI (f (BB w r) (τ r) c)
def RC (w : Nat → Nat) (k : Nat) (R : Int32) : Prop := ∃ n, n ≤ 9 ∧ R = nI n ∧ ∀ r, r < 9 → (r < n ↔ 0 < rL (BB w r) k)
theorem TR.same {f : (Nat → Nat) → Nat → Nat → Nat} {w : Nat → Nat} {τ τ' : Nat → Nat} {L : Nat → Int32} {N : Nat → Nat → Int32} (h : TR f w τ L N) (e : ∀ r, r < 9 → rL (BB w r) (τ' r) = rL (BB w r) (τ r) ∧ f (BB w r) (τ' r) = f (BB w r) (τ r)) : TR f w τ' L N := fun r hr => by
  rw [(e r hr).1, (e r hr).2]; exact h r hr
theorem gw_rows {w : Nat → Nat} {k g : Nat} (hw : ∀ t, w t = 0 ∨ (1 ≤ w t ∧ w t ≤ 9)) (h1 : BB w g k ≠ 0) (h2 : BB w (g + 1) k = 0) : (∀ r, r < g → BB w r k ≠ 0 ∧ cw (BB w r) k < rL (BB w r) k) ∧ ¬ cw (BB w g) k < rL (BB w g) k ∧ ∀ r, g < r → BB w r k = 0 := by
  refine ⟨fun r hr => ?_, fun q => ?_, fun r hr => BB_z' h2 (by omega)⟩
  · have h3 : bw (BB w r) k ≠ 0 := fun q => h1 (BB_z' (r := r + 1) q (by omega))
    exact ⟨(bw_ne h3).1, (bw_ne h3).2.1⟩
  · have e := (rw_bump h1 q).2.1
    have := rw_in (BB_in hw g) k _ q
    have h3 : bw (BB w g) k = 0 := h2
    omega
theorem RC_next {w : Nat → Nat} {k g n : Nat} (hw : ∀ t, w t = 0 ∨ (1 ≤ w t ∧ w t ≤ 9)) (hg : g < 9) (h1 : BB w g k ≠ 0) (h2 : BB w (g + 1) k = 0) (hn : n ≤ 9) (h : ∀ r, r < 9 → (r < n ↔ 0 < rL (BB w r) k)) : RC w (k + 1) (nI (max n (g + 1))) := by
  obtain ⟨a1, a2, a3⟩ := gw_rows hw h1 h2
  refine ⟨max n (g + 1), by omega, rfl, fun r hr => ?_⟩
  have hm := rL_mono (BB w r) k
  rcases Nat.lt_trichotomy r g with q | q | q
  · have := (a1 r q).2
    omega
  · subst q
    have := (rw_grow h1 a2).1
    omega
  · have e := (rw_0 (a3 r q)).1
    rw [e, ← h r hr]
    omega
theorem x_insert {w : Nat → Nat} {k : Nat} (hw : ∀ t, w t = 0 ∨ (1 ≤ w t ∧ w t ≤ 9)) (h0 : w k ≠ 0) (hk : k < 40) {R : Int32} {L : Nat → Int32} {N : Nat → Nat → Int32} (hT : TR rF w (fun _ => k) L N) (hR : RC w k R) {post : Int32 → Int32 → Int32 → (Nat → Int32) → (Nat → Nat → Int32) → Prop} (h : ∀ g R' L' N', g < 9 → BB w g k ≠ 0 → BB w (g + 1) k = 0 → TR rF w (fun _ => k + 1) L' N' → RC w (k + 1) R' → post (nI g) R' (nI (k + 1)) L' N') : p_X2_insert R (nI k) L N (nI (w k)) post := by
  obtain ⟨n, hn, hRn, hRr⟩ := hR
  unfold p_X2_insert
  refine pk_loop (fun u r (s : (Nat → Nat → Int32) × Int32) => p_X2_insert_4 (nI (w k)) post u R (nI k) L s.1 s.2 (nI r)) (fun r s => BB w r k ≠ 0 ∧ s.2 = nI (BB w r k) ∧ TR rF w (fun r' => if r' < r then k + 1 else k) L s.1) 9 0 (N, nI (w k)) (by omega) ⟨h0, rfl, hT.same (fun r hr => by rw [if_neg (Nat.not_lt_zero r)]; exact ⟨rfl, rfl⟩)⟩ (fun u s hs => ?_) (fun u r s hr hs ih => ?_)
  · have := BB_in hw 9 k
    exact absurd hs.1 (by omega)
  · show p_X2_insert_4 _ _ _ _ _ _ _ _ _
    unfold p_X2_insert_4
    obtain ⟨s1, s2, s3⟩ := hs
    have hin := rw_in (BB_in hw r) k
    have hBr := BB_in hw r k
    have hlk := rL_le (BB w r) k
    obtain ⟨t1, t2⟩ := s3 r hr
    dsimp only at t1 t2
    rw [if_neg (Nat.lt_irrefl r)] at t1 t2
    refine pk_le 9 r (fun q => by omega) (fun _ => ?_)
    rw [s2]
    refine x_fg hr t1 (by omega) t2 (fun c hc => by have := hin c hc; omega) (by omega) ?_
    have hcl := cw_le (BB w r) k
    rw [show fg (rF (BB w r) k) (BB w r k) (rL (BB w r) k) = cw (BB w r) k from rfl]
    refine x_has hr t1 (by omega) (by omega) (fun q => z1 ?_) (fun q => z0 ?_)
    · unfold p_X2_exchange
      refine x_has hr t1 (by omega) (by omega) (fun _ => z1 ?_) (fun q2 => by omega)
      have hr9 : vp_in (nI r) 9 := pk_in r 9 hr
      have hc40 : vp_in (nI (cw (BB w r) k)) 40 := pk_in (cw (BB w r) k) 40 (by omega)
      refine ⟨hr9, hc40, hr9, hc40, ?_⟩
      rw [nI_clamp (by omega), nI_clamp (by omega), nI_1, t2 _ q]
      obtain ⟨b1, b2, b3⟩ := rw_bump s1 q
      have hb := hin _ q
      refine ih (up2 s.1 r (upd (s.1 r) (cw (BB w r) k) (nI (BB w r k))), nI (rF (BB w r) k (cw (BB w r) k))) ⟨?_, ?_, ?_⟩
      · show bw (BB w r) k ≠ 0
        omega
      · show _ = nI (bw (BB w r) k)
        rw [b2]
      · intro r' hr'
        show L r' = _ ∧ ∀ c, _ → up2 _ _ _ _ _ = _
        dsimp only
        by_cases e : r' = r
        · subst e
          rw [if_pos (by omega), b1]
          refine ⟨t1, fun c hc => ?_⟩
          rw [up2_at, rw_F s1]
          by_cases ec : c = cw (BB w r') k
          · rw [if_pos ⟨rfl, ec⟩, if_pos ec]
          · rw [if_neg (fun z => ec z.2), if_neg ec]; exact t2 c hc
        · obtain ⟨u1, u2⟩ := s3 r' hr'
          dsimp only at u1 u2
          have e2 : (if r' < r + 1 then k + 1 else k) = (if r' < r then k + 1 else k) := by
            by_cases z : r' < r
            · rw [if_pos z, if_pos (by omega)]
            · rw [if_neg z, if_neg (by omega)]
          rw [e2]
          refine ⟨u1, fun c hc => ?_⟩
          rw [up2_n e]; exact u2 c hc
    · obtain ⟨b1, b2, b3, b4⟩ := rw_grow s1 (by omega)
      refine x_append hr t1 (by omega) hk hn hRn ?_
      refine h r _ _ _ hr s1 b2 (fun r' hr' => ?_) (RC_next hw hr s1 b2 hn hRr)
      rw [upd_at]
      by_cases e : r' = r
      · subst e
        rw [if_pos rfl, b1]
        refine ⟨rfl, fun c hc => ?_⟩
        rw [up2_at, rw_F s1]
        by_cases ec : c = cw (BB w r') k
        · rw [if_pos ⟨rfl, by omega⟩, if_pos ec]
        · rw [if_neg (fun z => ec (by omega)), if_neg ec]; exact t2 c (by omega)
      · rw [if_neg e]
        obtain ⟨u1, u2⟩ := s3 r' hr'
        dsimp only at u1 u2
        by_cases z : r' < r
        · rw [if_pos z] at u1 u2
          refine ⟨u1, fun c hc => ?_⟩
          rw [up2_n e]; exact u2 c hc
        · rw [if_neg z] at u1 u2
          obtain ⟨v1, v2, -⟩ := rw_0 ((gw_rows hw s1 b2).2.2 r' (by omega))
          rw [v1, v2]
          refine ⟨u1, fun c hc => ?_⟩
          rw [up2_n e]; exact u2 c hc
def WP (w : Nat → Nat) (k : Nat) (R P : Int32) (L : Nat → Int32) (N : Nat → Nat → Int32) : Prop := P = nI k ∧ TR rF w (fun _ => k) L N ∧ RC w k R
def WQ (w : Nat → Nat) (k : Nat) (R P : Int32) (L : Nat → Int32) (N : Nat → Nat → Int32) : Prop := P = nI k ∧ TR qF w (fun _ => k) L N ∧ RC w k R
theorem x_takeLetter {w : Nat → Nat} {k : Nat} (hw : ∀ t, w t = 0 ∨ (1 ≤ w t ∧ w t ≤ 9)) (h0 : w k ≠ 0) (hk : k < 40) {pR pP qR qP : Int32} {pL qL : Nat → Int32} {pN qN : Nat → Nat → Int32} (hP : WP w k pR pP pL pN) (hQ : WQ w k qR qP qL qN) {post : Int32 → Int32 → (Nat → Int32) → (Nat → Nat → Int32) → Int32 → Int32 → (Nat → Int32) → (Nat → Nat → Int32) → Prop} (h : ∀ pR' pP' pL' pN' qR' qP' qL' qN', WP w (k + 1) pR' pP' pL' pN' → WQ w (k + 1) qR' qP' qL' qN' → post pR' pP' pL' pN' qR' qP' qL' qN') : p_X3_takeLetter pR pP pL pN qR qP qL qN (nI (w k)) post := by
  obtain ⟨rfl, hP2, hP3⟩ := hP
  obtain ⟨rfl, hQ2, n, hn, hqR, hQ3⟩ := hQ
  unfold p_X3_takeLetter p_X3_letterCount p_X2_placeCount
  refine x_insert hw h0 hk hP2 hP3 (fun g R' L' N' hg g1 g2 hT hR => ?_)
  obtain ⟨a1, a2, a3⟩ := gw_rows hw g1 g2
  obtain ⟨t1, t2⟩ := hQ2 g hg
  dsimp only at t1 t2
  have hlk := rL_le (BB w g) k
  obtain ⟨b1, b2, b3, b4⟩ := rw_grow g1 a2
  refine x_append hg t1 (by omega) hk hn hqR (h _ _ _ _ _ _ _ _ ⟨rfl, hT, hR⟩ ⟨rfl, fun r hr => ?_, RC_next hw hg g1 g2 hn hQ3⟩)
  rw [upd_at]
  by_cases e : r = g
  · subst e
    rw [if_pos rfl, b1]
    refine ⟨rfl, fun c hc => ?_⟩
    rw [up2_at, b3]
    by_cases ec : c = cw (BB w r) k
    · rw [if_pos ⟨rfl, by omega⟩, if_pos ec]
    · rw [if_neg (fun z => ec (by omega)), if_neg ec]; exact t2 c (by omega)
  · rw [if_neg e]
    obtain ⟨u1, u2⟩ := hQ2 r hr
    dsimp only at u1 u2
    have v : rL (BB w r) (k + 1) = rL (BB w r) k ∧ qF (BB w r) (k + 1) = qF (BB w r) k := by
      rcases Nat.lt_or_ge r g with z | z
      · obtain ⟨y1, y2⟩ := a1 r z
        obtain ⟨x1, -, x3⟩ := rw_bump y1 y2
        exact ⟨x1, x3⟩
      · obtain ⟨x1, -, -, x3⟩ := rw_0 (a3 r (by omega))
        exact ⟨x1, x3⟩
    rw [v.1, v.2]
    refine ⟨u1, fun c hc => ?_⟩
    rw [up2_n e]; exact u2 c hc
