/-! back -/
def fl (l : Nat → Nat) (Q : Nat → Nat → Nat) : Nat → Nat → Nat
  | 0, _ => 0
  | R + 1, k => if k < ps l R then fl l Q R k else Q R (k - ps l R)
theorem fl_ex {l : Nat → Nat} {Q : Nat → Nat → Nat} : ∀ R k, k < ps l R → ∃ r c, r < R ∧ c < l r ∧ k = ps l r + c ∧ fl l Q R k = Q r c
  | 0, k, h => absurd h (Nat.not_lt_zero k)
  | R + 1, k, h => by
    have h : k < ps l R + l R := h
    show ∃ r c, r < R + 1 ∧ c < l r ∧ k = ps l r + c ∧ (if k < ps l R then fl l Q R k else Q R (k - ps l R)) = Q r c
    by_cases q : k < ps l R
    · obtain ⟨r, c, hr, hc, e1, e2⟩ := fl_ex (Q := Q) R k q
      rw [if_pos q]
      exact ⟨r, c, by omega, hc, e1, e2⟩
    · rw [if_neg q]
      exact ⟨R, k - ps l R, by omega, by omega, by omega, rfl⟩
theorem ps_uni {l : Nat → Nat} {r c r' c' : Nat} (hc : c < l r) (hc' : c' < l r') (e : ps l r + c = ps l r' + c') : r = r' ∧ c = c' := by
  rcases Nat.lt_trichotomy r r' with q | q | q
  · have h1 : ps l (r + 1) ≤ ps l r' := ps_le (by omega)
    have h2 : ps l (r + 1) = ps l r + l r := rfl
    omega
  · subst q; exact ⟨rfl, by omega⟩
  · have h1 : ps l (r' + 1) ≤ ps l r := ps_le (by omega)
    have h2 : ps l (r' + 1) = ps l r' + l r' := rfl
    omega
theorem fl_at {l : Nat → Nat} {Q : Nat → Nat → Nat} {r c : Nat} (hr : r < 9) (hc : c < l r) : ps l r + c < sm l ∧ fl l Q 9 (ps l r + c) = Q r c := by
  have h : ps l r + c < ps l 9 := by
    have h1 : ps l (r + 1) ≤ ps l 9 := ps_le (by omega)
    have h2 : ps l (r + 1) = ps l r + l r := rfl
    omega
  obtain ⟨r', c', hr', hc', e1, e2⟩ := fl_ex (Q := Q) 9 _ h
  obtain ⟨rfl, rfl⟩ := ps_uni hc hc' e1
  exact ⟨h, e2⟩
/-- none twice, none too great: all are there -/
theorem q_onto {l : Nat → Nat} {Q : Nat → Nat → Nat} (h1 : ∀ r, r < 9 → ∀ c, c < l r → 1 ≤ Q r c ∧ Q r c ≤ sm l) (h2 : ∀ r, r < 9 → ∀ c, c < l r → ∀ i d, d < l i → (i < r ∨ (i = r ∧ d < c)) → Q i d ≠ Q r c) (v : Nat) (hv : v < sm l) : ∃ r c, r < 9 ∧ c < l r ∧ Q r c = v + 1 := by
  obtain ⟨k, hk, e⟩ := fb_onto (n := sm l) (f := fun k => fl l Q 9 k - 1) (fun k hk => by
    obtain ⟨r, c, hr, hc, e1, e2⟩ := fl_ex (Q := Q) 9 k hk
    have := h1 r hr c hc
    omega) (fun i j hij hj => by
    obtain ⟨r, c, hr, hc, e1, e2⟩ := fl_ex (Q := Q) 9 i (by show i < sm l; omega)
    obtain ⟨r', c', hr', hc', e1', e2'⟩ := fl_ex (Q := Q) 9 j hj
    have a1 := h1 r hr c hc
    have a2 := h1 r' hr' c' hc'
    have lex : r < r' ∨ (r = r' ∧ c < c') := by
      rcases Nat.lt_trichotomy r r' with q | q | q
      · exact Or.inl q
      · subst q; exact Or.inr ⟨rfl, by omega⟩
      · have g1 : ps l (r' + 1) ≤ ps l r := ps_le (by omega)
        have g2 : ps l (r' + 1) = ps l r' + l r' := rfl
        omega
    have := h2 r' hr' c' hc' r c hc lex
    omega) hv
  obtain ⟨r, c, hr, hc, e1, e2⟩ := fl_ex (Q := Q) 9 k hk
  have := h1 r hr c hc
  exact ⟨r, c, hr, hc, by omega⟩
/-- all are there, as many as places: none twice -/
theorem q_inj {l : Nat → Nat} {Q : Nat → Nat → Nat} (h1 : ∀ r, r < 9 → ∀ c, c < l r → 1 ≤ Q r c ∧ Q r c ≤ sm l) (h2 : ∀ v, v < sm l → ∃ r c, r < 9 ∧ c < l r ∧ Q r c = v + 1) {r c r' c' : Nat} (hr : r < 9) (hc : c < l r) (hr' : r' < 9) (hc' : c' < l r') (e : Q r c = Q r' c') : r = r' ∧ c = c' := by
  refine Classical.byContradiction fun hne => ?_
  obtain ⟨a1, a2⟩ := fl_at (Q := Q) hr hc
  obtain ⟨b1, b2⟩ := fl_at (Q := Q) hr' hc'
  have hneq : ps l r + c ≠ ps l r' + c' := fun q => hne (ps_uni hc hc' q)
  generalize ps l r + c = i at a1 a2 hneq
  generalize ps l r' + c' = j at b1 b2 hneq
  have ex : ∀ v, v < sm l → ∃ k, k < sm l ∧ k ≠ j ∧ fl l Q 9 k = v + 1 := fun v hv => by
    obtain ⟨s, d, hs, hd, e1⟩ := h2 v hv
    obtain ⟨c1, c2⟩ := fl_at (Q := Q) hs hd
    by_cases z : ps l s + d = j
    · rw [z] at c2
      exact ⟨i, a1, hneq, by omega⟩
    · exact ⟨ps l s + d, c1, z, by omega⟩
  obtain ⟨G, hG⟩ : ∃ G : Nat → Nat, ∀ v, v < sm l → G v < sm l ∧ G v ≠ j ∧ fl l Q 9 (G v) = v + 1 := ⟨fun v => if h : v < sm l then Classical.choose (ex v h) else 0, fun v hv => by
    dsimp only
    rw [dif_pos hv]
    exact Classical.choose_spec (ex v hv)⟩
  have := fb_holes (sm l - 1) (sm l) (fun v => if G v < j then G v else G v - 1) (fun v hv => by
    obtain ⟨g1, g2, g3⟩ := hG v hv
    by_cases z : G v < j
    · rw [if_pos z]; omega
    · rw [if_neg z]; omega) (fun v w hvw hw => by
    obtain ⟨g1, g2, g3⟩ := hG v (by omega)
    obtain ⟨k1, k2, k3⟩ := hG w hw
    have hGne : G v ≠ G w := fun q => by rw [q] at g3; omega
    by_cases z : G v < j
    · rw [if_pos z]
      by_cases y : G w < j
      · rw [if_pos y]; exact hGne
      · rw [if_neg y]; omega
    · rw [if_neg z]
      by_cases y : G w < j
      · rw [if_pos y]; omega
      · rw [if_neg y]; omega)
  omega
def GC (l m : Nat → Nat) (e Q : Nat → Nat → Nat) : Prop := (∀ r, r < 9 → l r = m r) ∧ STC l ∧ RS 0 l e ∧ BL l e ∧ RS 1 m Q ∧ EO m Q
theorem sm_congr {l m : Nat → Nat} (h : ∀ r, r < 9 → l r = m r) : sm l = sm m := ps_congr 9 h
theorem GC_facts {l m : Nat → Nat} {e Q : Nat → Nat → Nat} (hq : ∀ r, r < 9 → ∀ c, c < m r → 1 ≤ Q r c ∧ Q r c ≤ 40) (g : GC l m e Q) : (∀ r, r < 9 → ∀ c, c < l r → 1 ≤ Q r c ∧ Q r c ≤ sm l) ∧ ∀ v, v < sm l → ∃ r c, r < 9 ∧ c < l r ∧ Q r c = v + 1 := by
  obtain ⟨g1, g2, g3, g4, g5, g6⟩ := g
  have es := sm_congr g1
  refine ⟨fun r hr c hc => ?_, fun v hv => ?_⟩
  · have hcm : c < m r := by rw [← g1 r hr]; exact hc
    have := hq r hr c hcm
    have := (g6 (Q r c - 1)).mp ⟨r, c, hr, hcm, by omega⟩
    omega
  · obtain ⟨r, c, hr, hc, e1⟩ := (g6 v).mpr (by omega)
    exact ⟨r, c, hr, by rw [g1 r hr]; exact hc, e1⟩
theorem GC_GM {l m : Nat → Nat} {e Q : Nat → Nat → Nat} (hq : ∀ r, r < 9 → ∀ c, c < m r → 1 ≤ Q r c ∧ Q r c ≤ 40) : GC l m e Q ↔ GM l m e Q := by
  constructor
  · intro g
    obtain ⟨f1, f2⟩ := GC_facts hq g
    obtain ⟨g1, g2, g3, g4, g5, g6⟩ := g
    refine ⟨g1, g2, fun r hr c hc => ⟨?_, (f1 r hr c hc).2, fun i d hd hid y => ?_, g3 r hr c hc, g5 r hr c (by rw [← g1 r hr]; exact hc)⟩⟩
    · have := g4 r hr c hc; omega
    · have := q_inj f1 f2 (show i < 9 by omega) hd hr hc y
      omega
  · intro g
    obtain ⟨g1, g2, g3⟩ := g
    have es := sm_congr g1
    have f1 : ∀ r, r < 9 → ∀ c, c < l r → 1 ≤ Q r c ∧ Q r c ≤ sm l := fun r hr c hc => ⟨(hq r hr c (by rw [← g1 r hr]; exact hc)).1, (g3 r hr c hc).2.1⟩
    refine ⟨g1, g2, fun r hr c hc => (g3 r hr c hc).2.2.2.1, fun r hr c hc => ?_, fun r hr c hc => (g3 r hr c (by rw [g1 r hr]; exact hc)).2.2.2.2, fun b => ⟨fun ⟨r, c, hr, hc, e1⟩ => ?_, fun hb => ?_⟩⟩
    · have := (g3 r hr c hc).1; omega
    · have := f1 r hr c (by rw [g1 r hr]; exact hc)
      omega
    · obtain ⟨r, c, hr, hc, e1⟩ := q_onto f1 (fun r hr c hc => (g3 r hr c hc).2.2.1) b (by omega)
      exact ⟨r, c, hr, by rw [← g1 r hr]; exact hc, e1⟩
theorem rows_le {e : Nat → Nat → Nat} {k r n : Nat} (h : ∀ c, c < n → 0 < c → e r (c - 1) + k ≤ e r c) : ∀ d c, c + d < n → e r c + k * d ≤ e r (c + d)
  | 0, c, _ => by rw [Nat.mul_zero]; exact Nat.le_refl _
  | d + 1, c, hd => by
    have := rows_le h d c (by omega)
    have h2 := h (c + (d + 1)) hd (by omega)
    rw [show c + (d + 1) - 1 = c + d by omega] at h2
    rw [Nat.mul_succ]
    omega
theorem GC_read {l m : Nat → Nat} {e Q : Nat → Nat → Nat} (he : ∀ r, r < 9 → ∀ c, c < l r → 1 ≤ e r c ∧ e r c ≤ 40) (hq : ∀ r, r < 9 → ∀ c, c < m r → 1 ≤ Q r c ∧ Q r c ≤ 40) (g : GC l m e Q) : TB l e ∧ RQ l l Q (sm l) := by
  obtain ⟨f1, f2⟩ := GC_facts hq g
  obtain ⟨g1, g2, g3, g4, g5, g6⟩ := g
  refine ⟨⟨g2, fun r hr c d hcd hd => ?_, fun r hr c hc => ?_, fun r hr c hc => ⟨(he r hr c hc).1, ?_⟩⟩, fun r hr => Nat.le_refl _, fun r hr c d hcd hd => ?_, fun r hr c hc => ?_, f1, fun v h1 h2 => ?_, fun r c r' c' hr hc hr' hc' e1 => q_inj f1 f2 hr hc hr' hc' e1⟩
  · have := rows_le (k := 0) (n := l r) (fun c hc h0 => (g3 r hr c hc).1 h0) (d - c) c (by omega)
    rw [show c + (d - c) = d by omega] at this
    omega
  · have := (g3 (r + 1) hr c hc).2 (by omega)
    rwa [Nat.add_sub_cancel] at this
  · have := g4 r hr c hc; omega
  · have := rows_le (e := Q) (k := 1) (n := l r) (fun c hc h0 => (g5 r hr c (by rw [← g1 r hr]; exact hc)).1 h0) (d - c) c (by omega)
    rw [show c + (d - c) = d by omega] at this
    omega
  · have := (g5 (r + 1) hr c (by rw [← g1 (r + 1) hr]; exact hc)).2 (by omega)
    rwa [Nat.add_sub_cancel] at this
  · obtain ⟨r, c, hr, hc, e1⟩ := f2 (v - 1) (by omega)
    exact ⟨r, c, hr, hc, by omega⟩
theorem x_told {l m : Nat → Nat} {e Q : Nat → Nat → Nat} {n n' : Nat} (hP : LTp l e n) (hQ : LTp m Q n') {aR aP bR bP : Int32} {aL bL : Nat → Int32} {aN bN : Nat → Nat → Int32} (hA : CL l e n aR aP aL aN) (hB : CL m Q n' bR bP bL bN) {post : Int32 → Prop} (h1 : GC l m e Q → post 1) (h0 : ¬ GC l m e Q → post 0) : p_X4_laidIsAsTold aR aL aN bR bP bL bN post := by
  obtain ⟨p1, p2, p3, p4⟩ := hP
  obtain ⟨q1, q2, q3, q4⟩ := hQ
  obtain ⟨rfl, rfl, hA3⟩ := hA
  obtain ⟨rfl, rfl, hB3⟩ := hB
  have hl : ∀ r, r < 9 → l r ≤ 40 := fun r hr => by have := sm_le (l := l) hr; omega
  have hm : ∀ r, r < 9 → m r ≤ 40 := fun r hr => by have := sm_le (l := m) hr; omega
  unfold p_X4_laidIsAsTold
  refine x_shape (fun r hr => (hA3 r hr).1) (fun r hr => (hB3 r hr).1) hl hm (fun c1 => z1 ?_) (fun c1 => z0 (h0 (fun g => c1 g.1)))
  refine x_stair (fun r hr => (hA3 r hr).1) hl p3 p4 (fun c2 => z1 ?_) (fun c2 => z0 (h0 (fun g => c2 g.2.1)))
  refine x_rises (k := 0) (by omega) (fun r hr => (hA3 r hr).1) hl (fun r hr => (hA3 r hr).2) (fun r hr c hc => (p1 r hr c hc).2) c2 p3 p4 (fun c3 => z1 ?_) (fun c3 => z0 (h0 (fun g => c3 g.2.2.1)))
  refine x_below (fun r hr => (hA3 r hr).1) hl (fun r hr => (hA3 r hr).2) (fun r hr c hc => (p1 r hr c hc).2) p3 p4 (fun c4 => z1 ?_) (fun c4 => z0 (h0 (fun g => c4 g.2.2.2.1)))
  have hst : STC m := fun r hr => by rw [← c1 r (by omega), ← c1 (r + 1) hr]; exact c2 r hr
  refine x_rises (k := 1) (by omega) (fun r hr => (hB3 r hr).1) hm (fun r hr => (hB3 r hr).2) (fun r hr c hc => (q1 r hr c hc).2) hst q3 q4 (fun c5 => z1 ?_) (fun c5 => z0 (h0 (fun g => c5 g.2.2.2.2.1)))
  exact x_each (fun r hr => (hB3 r hr).1) hm q2 (fun r hr => (hB3 r hr).2) q1 q3 q4 (fun c6 => z1 (h1 ⟨c1, c2, c3, c4, c5, c6⟩)) (fun c6 => z0 (h0 (fun g => c6 g.2.2.2.2.2)))
theorem CL.congr {l m : Nat → Nat} {e : Nat → Nat → Nat} {n : Nat} {R P : Int32} {L : Nat → Int32} {N : Nat → Nat → Int32} (h : ∀ r, r < 9 → l r = m r) (hC : CL m e n R P L N) : CL l e n R P L N := by
  obtain ⟨h1, h2, h3⟩ := hC
  exact ⟨h1, by rw [sm_congr h]; exact h2, fun r hr => by rw [h r hr]; exact h3 r hr⟩
theorem ML.congr {l m : Nat → Nat} {e : Nat → Nat → Nat} {la ro : Nat → Int32} (h : ∀ r, r < 9 → l r = m r) (hC : ML m e la ro) : ML l e la ro := fun r hr => by rw [h r hr]; exact hC r hr
theorem st_back {pR pP qR qP le : Int32} {pL qL wo : Nat → Int32} {pN qN : Nat → Nat → Int32} (hW : IW pR pP pL pN qR qP qL qN wo le) {aR aP bR bP : Int32} {aL bL lp lq rp rq : Nat → Int32} {aN bN : Nat → Nat → Int32} (hI : IL aR aP aL aN bR bP bL bN lp lq rp rq) (dr se : Nat → Int32) {K : (Nat → Int32) → Int32 → Int32 → (Nat → Int32) → (Nat → Nat → Int32) → Int32 → Int32 → (Nat → Int32) → (Nat → Nat → Int32) → Int32 → Int32 → (Nat → Int32) → (Nat → Nat → Int32) → Int32 → Int32 → (Nat → Int32) → (Nat → Int32) → Int32 → (Nat → Int32) → (Nat → Int32) → (Nat → Int32) → (Nat → Int32) → Prop} (hK : ∀ dr' pR' pP' pL' pN' qR' qP' qL' qN' aR' aP' aL' aN' bR' bP' bL' wo' le' lp' rp' rq' se', IW pR' pP' pL' pN' qR' qP' qL' qN' wo' le' → IL aR' aP' aL' aN' bR' bP' bL' bN lp' lq rp' rq' → K dr' pR' pP' pL' pN' qR' qP' qL' qN' aR' aP' aL' aN' bR' bP' bL' wo' le' lp' rp' rq' se') :
    p_X4_back dr pR pP pL pN qR qP qL qN aR aP aL aN bR bP bL bN (fun r dr' pR' pP' pL' pN' qR' qP' qL' qN' aR' aP' aL' aN' bR' bP' bL' => p_X5_back wo le lp lq rp rq se (fun r' wo' le' lp' rp' rq' se' => (r = r' → K dr' pR' pP' pL' pN' qR' qP' qL' qN' aR' aP' aL' aN' bR' bP' bL' wo' le' lp' rp' rq' se') ∧ (¬ r = r' → False))) := by
  obtain ⟨⟨l, e, n, a1, a2, a3⟩, ⟨m, Q, n', b1, b2, b3⟩⟩ := id hI
  obtain ⟨p1, p2, p3, p4⟩ := id a1
  obtain ⟨q1, q2, q3, q4⟩ := id b1
  have hl : ∀ r, r < 9 → l r ≤ 40 := fun r hr => by have := sm_le (l := l) hr; omega
  have hm : ∀ r, r < 9 → m r ≤ 40 := fun r hr => by have := sm_le (l := m) hr; omega
  have hiff := GC_GM (l := l) (e := e) q1
  unfold p_X4_back p_X5_back p_X2_placeCount
  refine x_told a1 b1 a2 b2 (fun g => z1 ?_) (fun g => z0 (m_told hl hm a3 b3 p1 q1 p2 (fun g2 => absurd (hiff.mpr g2) g) (fun _ se' => z0 (fin_eq rfl (hK _ _ _ _ _ _ _ _ _ _ _ _ _ _ _ _ _ _ _ _ _ _ hW hI)))))
  obtain ⟨r1, r2⟩ := GC_read p1 q1 g
  obtain ⟨ρ, hρ⟩ : ∃ ρ : Nat → Nat, ∀ v, 1 ≤ v → v ≤ sm l → ρ v < 9 ∧ ∃ c, c < l (ρ v) ∧ Q (ρ v) c = v := by
    have ex : ∀ v, 1 ≤ v ∧ v ≤ sm l → ∃ r, r < 9 ∧ ∃ c, c < l r ∧ Q r c = v := fun v hv => by
      obtain ⟨r, c, hr, hc, e1⟩ := r2.2.2.2.2.1 v hv.1 hv.2
      exact ⟨r, hr, c, hc, e1⟩
    refine ⟨fun v => if h : 1 ≤ v ∧ v ≤ sm l then Classical.choose (ex v h) else 0, fun v h1 h2 => ?_⟩
    dsimp only
    rw [dif_pos ⟨h1, h2⟩]
    exact Classical.choose_spec (ex v ⟨h1, h2⟩)
  have glm := g.1
  have eP : aP = nI (sm l) := a2.2.1
  subst eP
  obtain ⟨-, -, -, w4⟩ := RD_all r1 r2 rfl hρ (sm l) (Nat.le_refl _)
  have hw : isW (rdS ρ (sm l) l e (sm l)).2.2 (sm l) := fun t => ⟨fun ht => (w4 t).1 (by omega) ht, (w4 t).2⟩
  refine x_read r1 r2 rfl p2 hρ a2 (b2.congr glm) p3 q3 p4 (fun i hi => by rw [glm i hi]; exact q4 i hi) (fun dr' aR' aP' aL' aN' bR' bP' bL' hdr => ?_)
  refine x_empty (fun L hL => x_empty (fun L' hL' => x_become hw p2 hdr (fun pR' pP' pL' pN' qR' qP' qL' qN' x y => ?_)))
  refine m_told hl hm a3 b3 p1 q1 p2 (fun _ se' => z1 (m_total (fun r hr => (a3 r hr).1) ?_)) (fun g2 => absurd (hiff.mp g) g2)
  refine m_read r1 r2 rfl p2 hρ a3 (b3.congr glm) (fun wo' lp' rp' rq' hwo h0 => fin_eq rfl (hK _ _ _ _ _ _ _ _ _ _ _ _ _ _ _ _ _ _ _ _ _ _ ⟨_, sm l, hw, p2, rfl, hwo, x, y⟩ ⟨IT_0 hL (fun r hr => (h0 r hr).1), IT_0 hL' (fun r hr => (h0 r hr).2)⟩))
