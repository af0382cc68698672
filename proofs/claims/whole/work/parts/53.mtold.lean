/-! whether what is laid is as told: the reference -/
def cellM (l : Nat → Nat) (e Q : Nat → Nat → Nat) (T r c : Nat) : Prop := e r c ≤ 9 ∧ Q r c ≤ T ∧ (∀ i d, d < l i → (i < r ∨ (i = r ∧ d < c)) → Q i d ≠ Q r c) ∧ CC 0 e r c ∧ CC 1 Q r c
def GM (l m : Nat → Nat) (e Q : Nat → Nat → Nat) : Prop := (∀ r, r < 9 → l r = m r) ∧ STC l ∧ ∀ r, r < 9 → ∀ c, c < l r → cellM l e Q (sm l) r c
/-- what has been seen -/
def SE (l : Nat → Nat) (Q : Nat → Nat → Nat) (r c : Nat) (se : Nat → Int32) : Prop := ∀ v, v ≤ 40 → ((∃ i d, d < l i ∧ (i < r ∨ (i = r ∧ d < c)) ∧ Q i d = v) → se v = 1) ∧ (¬ (∃ i d, d < l i ∧ (i < r ∨ (i = r ∧ d < c)) ∧ Q i d = v) → se v = 0)
theorem m_cell {l m : Nat → Nat} {e Q : Nat → Nat → Nat} {lp lq rp rq se : Nat → Int32} {r c : Nat} (hl : ∀ r, r < 9 → l r ≤ 40) (hlm : ∀ r, r < 9 → l r = m r) (hst : STC l) (hA : ML l e lp rp) (hB : ML m Q lq rq) (he : ∀ r, r < 9 → ∀ c, c < l r → 1 ≤ e r c ∧ e r c ≤ 40) (hq : ∀ r, r < 9 → ∀ c, c < m r → 1 ≤ Q r c ∧ Q r c ≤ 40) (hT : sm l ≤ 40) (hr : r < 9) (hc : c < l r) {post : Int32 → (Nat → Int32) → Prop} {k93 : (Nat → Int32) → Int32 → Int32 → Int32 → Prop} {k106 : (Nat → Int32) → Int32 → Int32 → Int32 → Int32 → Prop}
    (F : ¬ GM l m e Q → ∀ se', k106 se' (nI (sm l)) 0 (nI r) (nI (c + 1))) (S : cellM l e Q (sm l) r c → k106 (upd se (Q r c) 1) (nI (sm l)) 1 (nI r) (nI (c + 1))) :
    (¬ GM l m e Q → p_X5_areTableaux_172 lp lq rp rq post k93 k106 se (nI (sm l)) (nI r) (nI c) (nI (40 * r + c))) ∧ (e r c ≤ 9 → Q r c ≤ sm l → (∀ i d, d < l i → (i < r ∨ (i = r ∧ d < c)) → Q i d ≠ Q r c) → p_X5_areTableaux_173 lp lq rp rq post k93 k106 se (nI (sm l)) (nI r) (nI c) (nI (40 * r + c)) 1) := by
  have hcm : c < m r := by rw [← hlm r hr]; exact hc
  have hlr := hl r hr
  have hin : vp_in (nI (40 * r + c)) 360 := pk_in (40 * r + c) 360 (by omega)
  have hlp := (hA r hr).2 c hc
  have hlq := (hB r hr).2 c hcm
  have hQ := hq r hr c hcm
  have hE := he r hr c hc
  have bad : ¬ cellM l e Q (sm l) r c → ¬ GM l m e Q := fun q g => q (g.2.2 r hr c hc)
  have f293 : ¬ GM l m e Q → ∀ se', p_X5_areTableaux_293 lp lq rp rq post k93 k106 se' (nI (sm l)) (nI r) (nI c) 0 := fun q se' => by
    unfold p_X5_areTableaux_293
    rw [nI_1]; exact F q se'
  have f239 : ¬ GM l m e Q → ∀ se', p_X5_areTableaux_239 lp lq rp rq post k93 k106 se' (nI (sm l)) (nI r) (nI c) (nI (40 * r + c)) 0 := fun q se' => by
    unfold p_X5_areTableaux_239 p_X5_areTableaux_292
    exact z0 (f293 q se')
  have hse : vp_in (lq (nI (40 * r + c)).toNatClampNeg) 41 := by rw [nI_clamp (by omega), hlq]; exact pk_in (Q r c) 41 (by omega)
  refine ⟨fun q => ?_, fun h9 hT2 hd => ?_⟩
  · unfold p_X5_areTableaux_172 p_X5_areTableaux_173 p_X5_areTableaux_238
    exact ⟨hin, hse, z0 (f239 q _)⟩
  · have s239 : CC 0 e r c ∨ True → (0 < c → e r (c - 1) ≤ e r c) → (0 < c → Q r (c - 1) < Q r c) → p_X5_areTableaux_239 lp lq rp rq post k93 k106 (upd se (Q r c) 1) (nI (sm l)) (nI r) (nI c) (nI (40 * r + c)) 1 := by
      intro _ c1 c2
      have fin : (0 < r → e (r - 1) c < e r c) → (0 < r → Q (r - 1) c < Q r c) → p_X5_areTableaux_288 lp lq rp rq post k93 k106 (upd se (Q r c) 1) (nI (sm l)) (nI r) (nI c) := by
        intro d1 d2
        unfold p_X5_areTableaux_288 p_X5_areTableaux_293
        rw [nI_1]
        exact S ⟨h9, hT2, hd, ⟨c1, d1⟩, ⟨fun z => c2 z, d2⟩⟩
      have bd : ¬ GM l m e Q → p_X5_areTableaux_292 lp lq rp rq post k93 k106 (upd se (Q r c) 1) (nI (sm l)) (nI r) (nI c) := fun q => by
        unfold p_X5_areTableaux_292
        exact f293 q _
      unfold p_X5_areTableaux_239
      refine z1 (pk_eq r 0 (fun q => fin (fun z => by omega) (fun z => by omega)) (fun q => ?_))
      obtain ⟨i, rfl⟩ : ∃ i, r = i + 1 := ⟨r - 1, by omega⟩
      have hsi := hst i (by omega)
      have hci : c < l i := by omega
      have hcmi : c < m i := by rw [← hlm i (by omega)]; exact hci
      have hEi := he i (by omega) c hci
      have hQi := hq i (by omega) c hcmi
      have e40 : nI (40 * (i + 1) + c) - 40 = nI (40 * i + c) := by
        rw [show (40 : Int32) = nI 40 from rfl, pk_sub (by omega)]
        congr 1
        omega
      have hin2 : vp_in (nI (40 * i + c)) 360 := pk_in (40 * i + c) 360 (by omega)
      rw [e40, nI_clamp (by omega), nI_clamp (by omega), hlp, hlq, (hA i (by omega)).2 c hci, (hB i (by omega)).2 c hcmi]
      rw [Nat.add_sub_cancel] at fin
      refine ⟨hin, hin2, pk_le (e (i + 1) c) (e i c) (fun z => bd (bad (fun g => ?_))) (fun z => ⟨hin, hin2, pk_le (Q (i + 1) c) (Q i c) (fun z2 => bd (bad (fun g => ?_))) (fun z2 => fin (fun _ => z) (fun _ => z2))⟩)⟩
      · have := g.2.2.2.1.2 (by omega)
        rw [Nat.add_sub_cancel] at this
        omega
      · have := g.2.2.2.2.2 (by omega)
        rw [Nat.add_sub_cancel] at this
        omega
    unfold p_X5_areTableaux_173 p_X5_areTableaux_234 p_X5_areTableaux_238
    refine ⟨hin, hse, z1 ?_⟩
    rw [nI_clamp (show 40 * r + c < 2 ^ 31 by omega), hlq, nI_clamp (show Q r c < 2 ^ 31 by omega), show vp_nar .boolean 1 = (1 : Int32) from rfl]
    refine pk_eq c 0 (fun q => s239 (Or.inr trivial) (fun z => by omega) (fun z => by omega)) (fun q => ?_)
    have hE1 := he r hr (c - 1) (by omega)
    have hQ1 := hq r hr (c - 1) (by omega)
    rw [nI_m1 (by omega), nI_clamp (by omega), hlp, show 40 * r + c - 1 = 40 * r + (c - 1) by omega, (hA r hr).2 (c - 1) (by omega), (hB r hr).2 (c - 1) (by omega)]
    have hin2 : vp_in (nI (40 * r + (c - 1))) 360 := pk_in (40 * r + (c - 1)) 360 (by omega)
    refine ⟨hin, hin2, pk_lt (e r c) (e r (c - 1)) (fun z => f239 (bad (fun g => ?_)) _) (fun z => ⟨hin, hin2, pk_le (Q r c) (Q r (c - 1)) (fun z2 => f239 (bad (fun g => ?_)) _) (fun z2 => s239 (Or.inr trivial) (fun _ => z) (fun _ => z2))⟩)⟩
    · have := g.2.2.2.1.1 (by omega); omega
    · have := g.2.2.2.2.1 (by omega); omega
theorem m_told {l m : Nat → Nat} {e Q : Nat → Nat → Nat} {lp lq rp rq se : Nat → Int32} (hl : ∀ r, r < 9 → l r ≤ 40) (hm : ∀ r, r < 9 → m r ≤ 40) (hA : ML l e lp rp) (hB : ML m Q lq rq) (he : ∀ r, r < 9 → ∀ c, c < l r → 1 ≤ e r c ∧ e r c ≤ 40) (hq : ∀ r, r < 9 → ∀ c, c < m r → 1 ≤ Q r c ∧ Q r c ≤ 40) (hT : sm l ≤ 40) {post : Int32 → (Nat → Int32) → Prop} (h1 : GM l m e Q → ∀ se', post 1 se') (h0 : ¬ GM l m e Q → ∀ se', post 0 se') : p_X5_areTableaux lp lq rp rq se post := by
  unfold p_X5_areTableaux
  refine m_total (fun r hr => (hA r hr).1) ?_
  refine pk_loop (fun u v se => p_X5_areTableaux_12 lp lq rp rq post u se (nI (sm l)) 1 (nI v)) (fun v se => ∀ i, i < v → se i = 0) 41 0 se (by omega) (fun i hi => absurd hi (Nat.not_lt_zero i)) (fun u se1 hse => ?_) (fun u v se1 hv hse ih => ?_)
  · show p_X5_areTableaux_12 _ _ _ _ _ _ _ _ _ _
    unfold p_X5_areTableaux_12
    refine pk_lt 40 41 (fun _ => ?_) (fun q => by omega)
    refine pk_loop (fun u r x2 => p_X5_areTableaux_33 lp lq rp rq post u se1 (nI (sm l)) x2 (nI r)) (fun r x2 => (x2 = 1 ∧ ∀ i, i < r → l i = m i ∧ (0 < i → l i ≤ l (i - 1))) ∨ (x2 = 0 ∧ ¬ GM l m e Q)) 9 0 1 (by omega) (Or.inl ⟨rfl, fun i hi => absurd hi (Nat.not_lt_zero i)⟩) (fun u x2 hx => ?_) (fun u r x2 hr hx ih => ?_)
    · show p_X5_areTableaux_33 _ _ _ _ _ _ _ _ _ _
      unfold p_X5_areTableaux_33
      refine pk_le 9 9 (fun _ => ?_) (fun q => by omega)
      rcases hx with ⟨rfl, hg⟩ | ⟨rfl, hb⟩
      · have hlm : ∀ r, r < 9 → l r = m r := fun r hr => (hg r hr).1
        have hst : STC l := fun r hr => by have := (hg (r + 1) hr).2 (by omega); rwa [Nat.add_sub_cancel] at this
        refine pk_loop (fun u r (s : (Nat → Int32) × Int32) => p_X5_areTableaux_93 lp lq rp rq post u s.1 (nI (sm l)) s.2 (nI r)) (fun r s => (s.2 = 1 ∧ (∀ i, i < r → ∀ c, c < l i → cellM l e Q (sm l) i c) ∧ SE l Q r 0 s.1) ∨ (s.2 = 0 ∧ ¬ GM l m e Q)) 9 0 (se1, 1) (by omega) (Or.inl ⟨rfl, fun i hi => absurd hi (Nat.not_lt_zero i), fun v hv => ⟨fun ⟨i, d, _, hid, _⟩ => by omega, fun _ => hse v (by omega)⟩⟩) (fun u s hs => ?_) (fun u r s hr hs ih => ?_)
        · show p_X5_areTableaux_93 _ _ _ _ _ _ _ _ _ _
          unfold p_X5_areTableaux_93
          refine pk_le 9 9 (fun _ => ?_) (fun q => by omega)
          rcases hs with ⟨e2, hc, -⟩ | ⟨e2, hb⟩
          · rw [e2]; exact ⟨rfl, h1 ⟨hlm, hst, hc⟩ _⟩
          · rw [e2]; exact ⟨rfl, h0 hb _⟩
        · show p_X5_areTableaux_93 _ _ _ _ _ _ _ _ _ _
          unfold p_X5_areTableaux_93
          refine pk_le 9 r (fun q => by omega) (fun _ => ?_)
          rcases hs with ⟨e2, hcell, hSE⟩ | ⟨e2, hb⟩
          · rw [e2]
            refine z1 ?_
            have hlr := hl r hr
            have hr9 : vp_in (nI r) 9 := pk_in r 9 hr
            refine pk_loop (fun v c (s : (Nat → Int32) × Int32) => p_X5_areTableaux_106 lp lq rp rq post _ v s.1 (nI (sm l)) s.2 (nI r) (nI c)) (fun c s => (s.2 = 1 ∧ (∀ d, d < c → cellM l e Q (sm l) r d) ∧ SE l Q r c s.1) ∨ (s.2 = 0 ∧ ¬ GM l m e Q)) (l r) 0 (s.1, 1) (by omega) (Or.inl ⟨rfl, fun d hd => absurd hd (Nat.not_lt_zero d), hSE⟩) (fun v s' hs' => ?_) (fun v c s' hc hs' ih2 => ?_)
            · show p_X5_areTableaux_106 _ _ _ _ _ _ _ _ _ _ _ _
              unfold p_X5_areTableaux_106
              rw [nI_clamp (by omega), (hA r hr).1, nI_1]
              refine ⟨hr9, pk_le (l r) (l r) (fun _ => ih (s'.1, s'.2) ?_) (fun q => by omega)⟩
              rcases hs' with ⟨e3, hc3, hSE3⟩ | hb
              · refine Or.inl ⟨e3, fun i hi c hc => ?_, fun v hv => ?_⟩
                · by_cases z : i = r
                  · subst z; exact hc3 c hc
                  · exact hcell i (by omega) c hc
                · have eqv : (∃ i d, d < l i ∧ (i < r + 1 ∨ (i = r + 1 ∧ d < 0)) ∧ Q i d = v) ↔ (∃ i d, d < l i ∧ (i < r ∨ (i = r ∧ d < l r)) ∧ Q i d = v) := by
                    constructor
                    · rintro ⟨i, d, hd, hid, hq2⟩
                      refine ⟨i, d, hd, ?_, hq2⟩
                      rcases Nat.lt_or_ge i r with z | z
                      · exact Or.inl z
                      · have : i = r := by omega
                        subst this; exact Or.inr ⟨rfl, hd⟩
                    · rintro ⟨i, d, hd, hid, hq2⟩
                      exact ⟨i, d, hd, by omega, hq2⟩
                  rw [eqv]; exact hSE3 v hv
              · exact Or.inr hb
            · show p_X5_areTableaux_106 _ _ _ _ _ _ _ _ _ _ _ _
              have hcm : c < m r := by rw [← hlm r hr]; exact hc
              have hQ := hq r hr c hcm
              have hE := he r hr c hc
              have hin : vp_in (nI (40 * r + c)) 360 := pk_in (40 * r + c) 360 (by omega)
              unfold p_X5_areTableaux_106
              rw [nI_clamp (show r < 2 ^ 31 by omega), (hA r hr).1, n40, nI_clamp (show 40 * r + c < 2 ^ 31 by omega), (hA r hr).2 c hc, (hB r hr).2 c hcm, nI_clamp (show Q r c < 2 ^ 31 by omega)]
              refine ⟨hr9, pk_le (l r) c (fun q => by omega) (fun _ => ?_)⟩
              rcases hs' with ⟨e3, hc3, hSE3⟩ | ⟨e3, hb⟩
              · rw [e3]
                obtain ⟨M0, M1⟩ := m_cell (se := s'.1) (post := post) (k93 := fun se x1 x2 x3 => p_X5_areTableaux_93 lp lq rp rq post u se x1 x2 x3) (k106 := fun se x1 x2 x3 x4 => p_X5_areTableaux_106 lp lq rp rq post (fun se x1 x2 x3 => p_X5_areTableaux_93 lp lq rp rq post u se x1 x2 x3) v se x1 x2 x3 x4) hl hlm hst hA hB he hq hT hr hc (fun hb se' => ih2 (se', 0) (Or.inr ⟨rfl, hb⟩)) (fun ok => ih2 (upd s'.1 (Q r c) 1, 1) (Or.inl ⟨rfl, fun d hd => by
                  by_cases z : d = c
                  · subst z; exact ok
                  · exact hc3 d (by omega), fun v hv => by
                  dsimp only
                  rw [upd_at]
                  by_cases z : v = Q r c
                  · rw [if_pos z]
                    exact ⟨fun _ => rfl, fun q => absurd ⟨r, c, hc, Or.inr ⟨rfl, by omega⟩, z.symm⟩ q⟩
                  · rw [if_neg z]
                    have eqv : (∃ i d, d < l i ∧ (i < r ∨ (i = r ∧ d < c + 1)) ∧ Q i d = v) ↔ (∃ i d, d < l i ∧ (i < r ∨ (i = r ∧ d < c)) ∧ Q i d = v) := by
                      constructor
                      · rintro ⟨i, d, hd, hid, hq2⟩
                        refine ⟨i, d, hd, ?_, hq2⟩
                        rcases hid with y | ⟨rfl, y⟩
                        · exact Or.inl y
                        · by_cases x : d = c
                          · subst x; exact absurd hq2.symm z
                          · exact Or.inr ⟨rfl, by omega⟩
                      · rintro ⟨i, d, hd, hid, hq2⟩
                        exact ⟨i, d, hd, by omega, hq2⟩
                    rw [eqv]; exact hSE3 v hv⟩))
                have bad : ¬ cellM l e Q (sm l) r c → ¬ GM l m e Q := fun q g => q (g.2.2 r hr c hc)
                refine z1 ⟨hin, pk_lt 9 (e r c) (fun q => M0 (bad (fun g => ?_))) (fun q => ⟨hin, pk_lt (sm l) (Q r c) (fun q2 => M0 (bad (fun g => ?_))) (fun q2 => ⟨hin, pk_in (Q r c) 41 (by omega), fun q3 => M1 q q2 (fun i d hd hid y => ?_), fun q3 => M0 (bad (fun g => ?_))⟩)⟩)⟩
                · have := g.1; omega
                · have := g.2.1; omega
                · have := (hSE3 (Q r c) (by omega)).1 ⟨i, d, hd, hid, y⟩
                  rw [this] at q3
                  exact absurd q3 (by decide)
                · refine q3 ((hSE3 (Q r c) (by omega)).2 (fun ⟨i, d, hd, hid, y⟩ => g.2.2.1 i d hd hid y))
              · rw [e3]
                refine z0 ?_
                unfold p_X5_areTableaux_172 p_X5_areTableaux_173 p_X5_areTableaux_238 p_X5_areTableaux_239 p_X5_areTableaux_292 p_X5_areTableaux_293
                refine ⟨hin, ?_, z0 (z0 ?_)⟩
                · rw [nI_clamp (by omega), (hB r hr).2 c hcm]; exact pk_in (Q r c) 41 (by omega)
                · rw [nI_1]
                  exact ih2 (_, 0) (Or.inr ⟨rfl, hb⟩)
          · rw [e2]
            exact z0 ⟨rfl, h0 hb _⟩
      · exact ⟨1, by
          unfold p_X5_areTableaux_93
          exact pk_le 9 0 (fun q => by omega) (fun _ => z0 ⟨rfl, h0 hb _⟩)⟩
    · show p_X5_areTableaux_33 _ _ _ _ _ _ _ _ _ _
      unfold p_X5_areTableaux_33 p_X5_areTableaux_83 p_X5_areTableaux_79 p_X5_areTableaux_84
      have hr9 : vp_in (nI r) 9 := pk_in r 9 hr
      have hlr := hl r hr
      have hmr := hm r hr
      rw [nI_1]
      refine pk_le 9 r (fun q => by omega) (fun _ => ?_)
      rcases hx with ⟨rfl, hg⟩ | ⟨rfl, hb⟩
      · refine z1 ⟨hr9, hr9, ?_⟩
        rw [nI_clamp (show r < 2 ^ 31 by omega), (hA r hr).1, (hB r hr).1]
        refine pk_eq (l r) (m r) (fun q => pk_eq r 0 (fun q2 => ih 1 (Or.inl ⟨rfl, fun i hi => ?_⟩)) (fun q2 => ⟨hr9, ?_⟩)) (fun q => ih 0 (Or.inr ⟨rfl, fun g => q (g.1 r hr)⟩))
        · have : i = r := by omega
          subst this; exact ⟨q, fun z => by omega⟩
        · have hlr1 := hl (r - 1) (by omega)
          rw [nI_m1 (by omega), nI_clamp (by omega), (hA (r - 1) (by omega)).1]
          refine ⟨pk_in (r - 1) 9 (by omega), pk_lt (l (r - 1)) (l r) (fun q3 => ih 0 (Or.inr ⟨rfl, fun g => ?_⟩)) (fun q3 => ih 1 (Or.inl ⟨rfl, fun i hi => ?_⟩))⟩
          · have := g.2.1 (r - 1) (by omega)
            rw [show r - 1 + 1 = r by omega] at this
            omega
          · by_cases z : i = r
            · subst z; exact ⟨q, fun _ => q3⟩
            · exact hg i (by omega)
      · exact z0 (ih 0 (Or.inr ⟨rfl, hb⟩))
  · show p_X5_areTableaux_12 _ _ _ _ _ _ _ _ _ _
    unfold p_X5_areTableaux_12
    rw [nI_clamp (by omega), nI_1, show vp_nar .boolean 0 = (0 : Int32) from rfl]
    refine pk_lt 40 v (fun q => by omega) (fun _ => ⟨pk_in v 41 hv, ih _ (fun i hi => ?_)⟩)
    rw [upd_at]
    by_cases z : i = v
    · rw [if_pos z]
    · rw [if_neg z]; exact hse i (by omega)
