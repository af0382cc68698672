/-! the word of the box -/
def spW (a : Nat → Nat) (n : Nat) : Nat → Nat × (Nat → Nat)
  | 0 => (0, fun _ => 0)
  | k + 1 => ((spW a n k).1 + a k, fun t => if (spW a n k).1 ≤ t ∧ t < (spW a n k).1 + a k then k % n + 1 else (spW a n k).2 t)
theorem spW_1 (a : Nat → Nat) (n k : Nat) : (spW a n (k + 1)).1 = (spW a n k).1 + a k := rfl
theorem spW_2 (a : Nat → Nat) (n k t : Nat) : (spW a n (k + 1)).2 t = if (spW a n k).1 ≤ t ∧ t < (spW a n k).1 + a k then k % n + 1 else (spW a n k).2 t := rfl
theorem spW_mono (a : Nat → Nat) (n k : Nat) : ∀ d, (spW a n k).1 ≤ (spW a n (k + d)).1
  | 0 => Nat.le_refl _
  | d + 1 => by
    have := spW_mono a n k d
    have := spW_1 a n (k + d)
    rw [show k + (d + 1) = k + d + 1 from rfl]
    omega
theorem spW_le {a : Nat → Nat} {n k l : Nat} (h : k ≤ l) : (spW a n k).1 ≤ (spW a n l).1 := by
  have := spW_mono a n k (l - k)
  rwa [show k + (l - k) = l by omega] at this
theorem spW_isW {a : Nat → Nat} {n : Nat} (hn : 1 ≤ n ∧ n ≤ 6) : ∀ k, isW (spW a n k).2 (spW a n k).1
  | 0 => isW_0
  | k + 1 => fun t => by
    have ih := spW_isW hn k t (a := a)
    rw [spW_2, spW_1]
    have hm : k % n < n := Nat.mod_lt _ (by omega)
    by_cases c : (spW a n k).1 ≤ t ∧ t < (spW a n k).1 + a k
    · rw [if_pos c]; exact ⟨fun _ => by omega, fun q => by omega⟩
    · rw [if_neg c]; exact ⟨fun q => ih.1 (by omega), fun q => ih.2 (by omega)⟩
theorem sumI_sp {F : Nat → Int32} {a : Nat → Nat} {n : Nat} : ∀ k, (∀ j, j < k → F j = nI (a j)) → sumI F k = nI (spW a n k).1
  | 0, _ => rfl
  | k + 1, h => by
    show sumI F k + F k = nI ((spW a n k).1 + a k)
    rw [sumI_sp k (fun j hj => h j (by omega)), h k (by omega), nI_add]
theorem spW_bound {a : Nat → Nat} {n : Nat} (ha : ∀ k, a k ≤ 20) : ∀ k, (spW a n k).1 ≤ 20 * k
  | 0 => Nat.le_refl 0
  | k + 1 => by
    have := spW_bound ha k (n := n)
    have := ha k
    rw [spW_1]; omega
/-- written so far -/
def wr (a : Nat → Nat) (n k : Nat) (f : Nat → Int32) : Prop := ∀ t, t < (spW a n k).1 → f t = nI ((spW a n k).2 t)
def wrC (a : Nat → Nat) (n k c : Nat) (f : Nat → Int32) : Prop := ∀ t, t < (spW a n k).1 + c → f t = nI (if (spW a n k).1 ≤ t then k % n + 1 else (spW a n k).2 t)
theorem wrC_0 {a : Nat → Nat} {n k : Nat} {f : Nat → Int32} (h : wr a n k f) : wrC a n k 0 f := fun t ht => by rw [if_neg (by omega)]; exact h t (by omega)
theorem wrC_s {a : Nat → Nat} {n k c : Nat} {f : Nat → Int32} (h : wrC a n k c f) : wrC a n k (c + 1) (upd f ((spW a n k).1 + c) (nI (k % n + 1))) := fun t ht => by
  rw [upd_at]
  by_cases e : t = (spW a n k).1 + c
  · rw [if_pos e, if_pos (by omega)]
  · rw [if_neg e]; exact h t (by omega)
theorem wrC_e {a : Nat → Nat} {n k : Nat} {f : Nat → Int32} (h : wrC a n k (a k) f) : wr a n (k + 1) f := fun t ht => by
  rw [spW_1] at ht
  rw [h t ht, spW_2]
  by_cases c : (spW a n k).1 ≤ t
  · rw [if_pos c, if_pos ⟨c, ht⟩]
  · rw [if_neg c, if_neg (fun q => c q.1)]
theorem x_spell {C : Nat → Nat → Int32} {a : Nat → Nat} {m n : Nat} (hm : m ≤ 6) (hn : n ≤ 6) (hC : ∀ i j, i < m → j < n → C i j = nI (a (n * i + j))) (ha : ∀ k, a k ≤ 20) (hT : (spW a n (n * m)).1 ≤ 40) {f : Nat → Int32} {post : (Nat → Int32) → Prop} (h : ∀ f', wr a n (n * m) f' → post f') : p_X0_spell f (nI m) (nI n) C post := by
  unfold p_X0_spell
  refine pk_loop (fun u i (s : (Nat → Int32) × Int32) => p_X0_spell_4 (nI m) (nI n) C post u s.1 s.2 (nI i)) (fun i s => s.2 = nI (spW a n (n * i)).1 ∧ wr a n (n * i) s.1) m 0 (f, 0) (by omega) ⟨rfl, fun t ht => absurd ht (Nat.not_lt_zero t)⟩ (fun u s hs => ?_) (fun u i s hi hs ih => ?_)
  · show p_X0_spell_4 _ _ _ _ _ _ _ _
    unfold p_X0_spell_4
    exact pk_le m m (fun _ => h s.1 hs.2) (fun q => by omega)
  · show p_X0_spell_4 _ _ _ _ _ _ _ _
    unfold p_X0_spell_4
    refine pk_le m i (fun q => by omega) (fun _ => ?_)
    refine pk_loop (fun u j (s : (Nat → Int32) × Int32) => p_X0_spell_15 (nI m) (nI n) C post _ u s.1 s.2 (nI i) (nI j)) (fun j s => s.2 = nI (spW a n (n * i + j)).1 ∧ wr a n (n * i + j) s.1) n 0 (s.1, s.2) (by omega) hs (fun u' s' hs' => ?_) (fun u' j s' hj hs' ih2 => ?_)
    · show p_X0_spell_15 _ _ _ _ _ _ _ _ _ _
      unfold p_X0_spell_15
      refine pk_le n n (fun _ => ?_) (fun q => by omega)
      rw [nI_1]
      exact ih (s'.1, s'.2) (by rw [Nat.mul_succ]; exact hs')
    · show p_X0_spell_15 _ _ _ _ _ _ _ _ _ _
      unfold p_X0_spell_15
      refine pk_le n j (fun q => by omega) (fun _ => ?_)
      have hlt := nd_lt hi hj
      have e := nd_of (k := n * i + j) hj rfl
      have hlast := spW_le (a := a) (n := n) (show n * i + j + 1 ≤ n * m by omega)
      rw [spW_1] at hlast
      have hak := ha (n * i + j)
      refine pk_loop (fun u c (s : (Nat → Int32) × Int32) => p_X0_spell_27 (nI m) (nI n) C post _ _ u s.1 s.2 (nI i) (nI j) (nI c)) (fun c s => s.2 = nI ((spW a n (n * i + j)).1 + c) ∧ wrC a n (n * i + j) c s.1) (a (n * i + j)) 0 (s'.1, s'.2) (by omega) ⟨hs'.1, wrC_0 hs'.2⟩ (fun v y hy => ?_) (fun v c y hc hy ih3 => ?_)
      · show p_X0_spell_27 _ _ _ _ _ _ _ _ _ _ _ _
        unfold p_X0_spell_27 p_X0_spell_63
        rw [nI_clamp (by omega), nI_clamp (by omega), hC i j hi hj]
        refine ⟨pk_in i 6 (by omega), pk_in j 6 (by omega), pk_le (a (n * i + j)) (a (n * i + j)) (fun _ => ?_) (fun q => by omega)⟩
        rw [nI_1]
        exact ih2 (y.1, y.2) ⟨hy.1, wrC_e hy.2⟩
      · show p_X0_spell_27 _ _ _ _ _ _ _ _ _ _ _ _
        unfold p_X0_spell_27 p_X0_spell_63
        rw [nI_clamp (show i < 2 ^ 31 by omega), nI_clamp (show j < 2 ^ 31 by omega), hC i j hi hj, hy.1, nI_clamp (by omega)]
        refine ⟨pk_in i 6 (by omega), pk_in j 6 (by omega), pk_le (a (n * i + j)) c (fun q => by omega) (fun _ => pk_le 40 ((spW a n (n * i + j)).1 + c) (fun q => by omega) (fun _ => ⟨pk_in ((spW a n (n * i + j)).1 + c) 40 (by omega), ?_⟩))⟩
        rw [nI_1, nI_1, nI_1]
        refine ih3 (upd y.1 ((spW a n (n * i + j)).1 + c) (nI (j + 1)), nI ((spW a n (n * i + j)).1 + c + 1)) ⟨rfl, ?_⟩
        have := wrC_s hy.2
        rw [← e.2] at this
        exact this
theorem m_wordOf {C : Nat → Nat → Int32} {we : Nat → Int32} {a : Nat → Nat} {m n : Nat} (hm : m ≤ 6) (hn : n ≤ 6) (hC : ∀ i j, i < m → j < n → we (6 * i + j) = nI (a (n * i + j))) (ha : ∀ k, a k ≤ 20) (hT : (spW a n (n * m)).1 < 2 ^ 31) {wo : Nat → Int32} {le : Int32} {post : Int32 → (Nat → Int32) → Int32 → Prop} (h : (spW a n (n * m)).1 ≤ 40 → ∀ wo', wr a n (n * m) wo' → post (nI (spW a n (n * m)).1) wo' (nI (spW a n (n * m)).1)) (hF : 40 < (spW a n (n * m)).1 → post (-3) wo le) : p_X5_wordOf (nI m) (nI n) we wo le post := by
  unfold p_X5_wordOf
  refine pk_loop (fun u i x => p_X5_wordOf_4 (nI m) (nI n) we post u wo le x (nI i)) (fun i x => x = nI (spW a n (n * i)).1) m 0 0 (by omega) rfl (fun u x hx => ?_) (fun u i x hi hx ih => ?_)
  · show p_X5_wordOf_4 _ _ _ _ _ _ _ _ _
    unfold p_X5_wordOf_4
    refine pk_le m m (fun _ => ?_) (fun q => by omega)
    rw [hx]
    refine pk_le (spW a n (n * m)).1 40 (fun h40 => ?_) (fun q => hF q)
    refine pk_loop (fun u i (s : (Nat → Int32) × Int32) => p_X5_wordOf_64 (nI m) (nI n) we post u s.1 s.2 (nI i)) (fun i s => s.2 = nI (spW a n (n * i)).1 ∧ wr a n (n * i) s.1) m 0 (wo, 0) (by omega) ⟨rfl, fun t ht => absurd ht (Nat.not_lt_zero t)⟩ (fun u s hs => ?_) (fun u i s hi hs ih => ?_)
    · show p_X5_wordOf_64 _ _ _ _ _ _ _ _
      unfold p_X5_wordOf_64
      refine pk_le m m (fun _ => ?_) (fun q => by omega)
      rw [hs.1]
      exact h h40 s.1 hs.2
    · show p_X5_wordOf_64 _ _ _ _ _ _ _ _
      unfold p_X5_wordOf_64
      refine pk_le m i (fun q => by omega) (fun _ => ?_)
      refine pk_loop (fun u j (s : (Nat → Int32) × Int32) => p_X5_wordOf_74 (nI m) (nI n) we post _ u s.1 s.2 (nI i) (nI j)) (fun j s => s.2 = nI (spW a n (n * i + j)).1 ∧ wr a n (n * i + j) s.1) n 0 (s.1, s.2) (by omega) hs (fun u' s' hs' => ?_) (fun u' j s' hj hs' ih2 => ?_)
      · show p_X5_wordOf_74 _ _ _ _ _ _ _ _ _ _
        unfold p_X5_wordOf_74
        refine pk_le n n (fun _ => ?_) (fun q => by omega)
        rw [nI_1]
        exact ih (s'.1, s'.2) (by rw [Nat.mul_succ]; exact hs')
      · show p_X5_wordOf_74 _ _ _ _ _ _ _ _ _ _
        unfold p_X5_wordOf_74
        refine pk_le n j (fun q => by omega) (fun _ => ?_)
        have hlt := nd_lt hi hj
        have e := nd_of (k := n * i + j) hj rfl
        have hlast := spW_le (a := a) (n := n) (show n * i + j + 1 ≤ n * m by omega)
        rw [spW_1] at hlast
        have hak := ha (n * i + j)
        refine pk_loop (fun u c (s : (Nat → Int32) × Int32) => p_X5_wordOf_85 (nI m) (nI n) we post _ _ u s.1 s.2 (nI i) (nI j) (nI c)) (fun c s => s.2 = nI ((spW a n (n * i + j)).1 + c) ∧ wrC a n (n * i + j) c s.1) (a (n * i + j)) 0 (s'.1, s'.2) (by omega) ⟨hs'.1, wrC_0 hs'.2⟩ (fun v y hy => ?_) (fun v c y hc hy ih3 => ?_)
        · show p_X5_wordOf_85 _ _ _ _ _ _ _ _ _ _ _ _
          unfold p_X5_wordOf_85
          rw [n6, nI_clamp (by omega), hC i j hi hj]
          refine ⟨pk_in (6 * i + j) 36 (by omega), pk_le (a (n * i + j)) (a (n * i + j)) (fun _ => ?_) (fun q => by omega)⟩
          rw [nI_1]
          exact ih2 (y.1, y.2) ⟨hy.1, wrC_e hy.2⟩
        · show p_X5_wordOf_85 _ _ _ _ _ _ _ _ _ _ _ _
          unfold p_X5_wordOf_85
          rw [n6, nI_clamp (show 6 * i + j < 2 ^ 31 by omega), hC i j hi hj, hy.1, nI_clamp (by omega)]
          refine ⟨pk_in (6 * i + j) 36 (by omega), pk_le (a (n * i + j)) c (fun q => by omega) (fun _ => ⟨pk_in ((spW a n (n * i + j)).1 + c) 40 (by omega), ?_⟩)⟩
          rw [nI_1, nI_1, nI_1]
          refine ih3 (upd y.1 ((spW a n (n * i + j)).1 + c) (nI (j + 1)), nI ((spW a n (n * i + j)).1 + c + 1)) ⟨rfl, ?_⟩
          have := wrC_s hy.2
          rw [← e.2] at this
          exact this
  · show p_X5_wordOf_4 _ _ _ _ _ _ _ _ _
    unfold p_X5_wordOf_4
    refine pk_le m i (fun q => by omega) (fun _ => ?_)
    refine pk_loop (fun u j x => p_X5_wordOf_14 (nI m) (nI n) we post _ u wo le x (nI i) (nI j)) (fun j x => x = nI (spW a n (n * i + j)).1) n 0 x (by omega) hx (fun u' x' hx' => ?_) (fun u' j x' hj hx' ih2 => ?_)
    · show p_X5_wordOf_14 _ _ _ _ _ _ _ _ _ _ _
      unfold p_X5_wordOf_14
      refine pk_le n n (fun _ => ?_) (fun q => by omega)
      rw [nI_1]
      exact ih x' (by rw [hx', Nat.mul_succ])
    · show p_X5_wordOf_14 _ _ _ _ _ _ _ _ _ _ _
      unfold p_X5_wordOf_14
      rw [n6, nI_1, nI_1, nI_clamp (by omega), hC i j hi hj, hx', nI_add]
      exact pk_le n j (fun q => by omega) (fun _ => ⟨pk_in (6 * i + j) 36 (by omega), ih2 _ rfl⟩)
theorem st_wordOf {M N : Int32} {C Pa : Nat → Nat → Int32} {mm nn : Int32} {we : Nat → Int32} (hG : IG M N C Pa mm nn we) {pR pP qR qP le : Int32} {pL qL wo : Nat → Int32} {pN qN : Nat → Nat → Int32} (h : IW pR pP pL pN qR qP qL qN wo le) (dr : Nat → Int32) {K : (Nat → Int32) → Int32 → Int32 → (Nat → Int32) → (Nat → Nat → Int32) → Int32 → Int32 → (Nat → Int32) → (Nat → Nat → Int32) → (Nat → Int32) → Int32 → Prop} (hK : ∀ dr' pR' pP' pL' pN' qR' qP' qL' qN' wo' le', IW pR' pP' pL' pN' qR' qP' qL' qN' wo' le' → K dr' pR' pP' pL' pN' qR' qP' qL' qN' wo' le') :
    p_X4_wordOf M N C dr pR pP pL pN qR qP qL qN (fun r dr' pR' pP' pL' pN' qR' qP' qL' qN' => p_X5_wordOf mm nn we wo le (fun r' wo' le' => (r = r' → K dr' pR' pP' pL' pN' qR' qP' qL' qN' wo' le') ∧ (¬ r = r' → False))) := by
  obtain ⟨m, n, hm, hn, rfl, rfl, rfl, rfl, hw, hb, hPa⟩ := hG
  have hnat : ∃ a : Nat → Nat, (∀ k, a k ≤ 20) ∧ ∀ i j, i < m → j < n → C i j = nI (a (n * i + j)) := by
    refine ⟨fun k => if (C (k / n) (k % n)).toNatClampNeg ≤ 20 then (C (k / n) (k % n)).toNatClampNeg else 0, fun k => ?_, fun i j hi hj => ?_⟩
    · dsimp only
      split <;> omega
    · have e := nd_of (k := n * i + j) hj rfl
      dsimp only
      rw [← e.1, ← e.2]
      obtain ⟨b, hb1, hb2⟩ := hb i j (by omega) (by omega)
      rw [hb2, nI_clamp (by omega), if_pos hb1]
  obtain ⟨a, ha, hC⟩ := hnat
  have hbd := spW_bound (n := n) ha (n * m)
  have hnm : n * m ≤ 36 := Nat.mul_le_mul hn.2 hm.2
  unfold p_X4_wordOf
  refine x_total hm.2 hn.2 ?_
  rw [sumI_sp (a := a) (n := n) (n * m) (fun k hk => by obtain ⟨y1, y2, y3⟩ := nd_rev hk; rw [hC _ _ y1 y2, y3])]
  have hC2 : ∀ i j, i < m → j < n → we (6 * i + j) = nI (a (n * i + j)) := fun i j hi hj => by rw [hw i j (by omega) (by omega), hC i j hi hj]
  refine pk_le (spW a n (n * m)).1 40 (fun q => ?_) (fun q => m_wordOf (C := C) hm.2 hn.2 hC2 ha (by omega) (fun q2 => by omega) (fun _ => fin_eq rfl (hK _ _ _ _ _ _ _ _ _ _ _ h)))
  refine x_spell hm.2 hn.2 hC ha q (fun f hf => x_become (spW_isW hn _) q hf (fun pR' pP' pL' pN' qR' qP' qL' qN' x y => m_wordOf (C := C) hm.2 hn.2 hC2 ha (by omega) (fun _ wo' hwo' => fin_eq rfl (hK _ _ _ _ _ _ _ _ _ _ _ ⟨(spW a n (n * m)).2, (spW a n (n * m)).1, spW_isW hn _, q, rfl, hwo', x, y⟩)) (fun q2 => by omega)))
