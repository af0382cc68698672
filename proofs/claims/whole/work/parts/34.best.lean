/-! best ways: best, between, served, line -/
def mxI (a b : Int32) : Int32 := if a < b then b else a
def mnI (a b : Int32) : Int32 := if b < a then b else a
theorem m_greater {a b : Int32} {post : Int32 → Prop} (h : post (mxI a b)) : p_X5_greater a b post := by
  unfold p_X5_greater
  unfold mxI at h
  refine ⟨fun c => ?_, fun c => ?_⟩
  · by_cases q : a < b
    · rw [if_pos q] at h; exact h
    · rw [if_neg q] at h
      have e : a = b := Int32.le_antisymm c (le_not_lt.mpr q)
      rw [← e]; exact h
  · rw [if_neg (fun q => c (Int32.le_of_lt q))] at h; exact h
def gB (W : Nat → Nat → Int32) (a b : Nat) : Nat → Nat → Nat → Int32
  | 0, _, _ => 0
  | n + 1, i, j => W i j + mxI (if a < i then gB W a b n (i - 1) j else 0) (if b < j then gB W a b n i (j - 1) else 0)
def gF (W : Nat → Nat → Int32) (a b i j : Nat) : Int32 := gB W a b (i + j + 1) i j
theorem gF_eq (W : Nat → Nat → Int32) (a b i j : Nat) : gF W a b i j = W i j + mxI (if a < i then gF W a b (i - 1) j else 0) (if b < j then gF W a b i (j - 1) else 0) := by
  have e1 : (if a < i then gB W a b (i + j) (i - 1) j else 0) = (if a < i then gF W a b (i - 1) j else 0) := by
    by_cases c : a < i
    · rw [if_pos c, if_pos c]; unfold gF; rw [show i - 1 + j + 1 = i + j by omega]
    · rw [if_neg c, if_neg c]
  have e2 : (if b < j then gB W a b (i + j) i (j - 1) else 0) = (if b < j then gF W a b i (j - 1) else 0) := by
    by_cases c : b < j
    · rw [if_pos c, if_pos c]; unfold gF; rw [show i + (j - 1) + 1 = i + j by omega]
    · rw [if_neg c, if_neg c]
  rw [← e1, ← e2]
  rfl
theorem nI_m1 {j : Nat} (h : 1 ≤ j) : nI j - 1 = nI (j - 1) := pk_sub (b := 1) h
theorem x_heavy1 {C G : Nat → Nat → Int32} {a b i j : Nat} {x3 x4 : Int32} {post : Int32 → (Nat → Nat → Int32) → Prop} {k3 : (Nat → Nat → Int32) → Int32 → Prop} {k12 : (Nat → Nat → Int32) → Int32 → Int32 → Prop} (ha : a ≤ i) (hb : b ≤ j) (hi : i < 6) (hj : j < 6) (hu : a < i → G (i - 1) j = gF C a b (i - 1) j) (hl : b < j → G i (j - 1) = gF C a b i (j - 1)) (h : k12 (up2 G i (upd (G i) j (gF C a b i j))) (nI i) (nI (j + 1))) :
    ((nI i ≤ nI a → p_X0_heaviest_41 C (nI a) (nI b) x3 x4 post k3 k12 G (nI i) (nI j) 0) ∧ (¬ nI i ≤ nI a → (vp_in (nI i - 1) 6 ∧ (vp_in (nI j) 6 ∧ p_X0_heaviest_41 C (nI a) (nI b) x3 x4 post k3 k12 G (nI i) (nI j) (G ((nI i - 1).toNatClampNeg) (nI j).toNatClampNeg))))) := by
  have hi6 : vp_in (nI i) 6 := pk_in i 6 hi
  have hj6 : vp_in (nI j) 6 := pk_in j 6 hj
  have h65 : ∀ s t, s = (if a < i then gF C a b (i - 1) j else 0) → t = (if b < j then gF C a b i (j - 1) else 0) → p_X0_heaviest_65 C (nI a) (nI b) x3 x4 post k3 k12 G (nI i) (nI j) s t := by
    intro s t hs ht
    unfold p_X0_heaviest_65
    refine ⟨hi6, hi6, hj6, hj6, ?_⟩
    rw [nI_1, nI_clamp (show i < 2 ^ 31 by omega), nI_clamp (show j < 2 ^ 31 by omega)]
    have e : C i j + (if s < t then t else s) = gF C a b i j := by rw [gF_eq, ← hs, ← ht]; rfl
    rw [e]; exact h
  have h41 : ∀ s, s = (if a < i then gF C a b (i - 1) j else 0) → p_X0_heaviest_41 C (nI a) (nI b) x3 x4 post k3 k12 G (nI i) (nI j) s := by
    intro s hs
    unfold p_X0_heaviest_41
    refine pk_le j b (fun q => h65 _ _ hs (by rw [if_neg (by omega)])) (fun q => ⟨hi6, pk_in (j - 1) 6 (by omega) (nI_m1 (by omega)), h65 _ _ hs ?_⟩)
    rw [nI_m1 (by omega), nI_clamp (by omega), nI_clamp (by omega), if_pos q]; exact hl q
  refine pk_le i a (fun q => h41 _ (by rw [if_neg (by omega)])) (fun q => ⟨pk_in (i - 1) 6 (by omega) (nI_m1 (by omega)), hj6, h41 _ ?_⟩)
  rw [nI_m1 (by omega), nI_clamp (by omega), nI_clamp (by omega), if_pos q]; exact hu q
theorem x_heavy {C Gr : Nat → Nat → Int32} {a b c d : Nat} (hc : c < 6) (hd : d < 6) (hac : a ≤ c) (hbd : b ≤ d) {post : Int32 → (Nat → Nat → Int32) → Prop} (h : ∀ Gr', (∀ i j, a ≤ i → i ≤ c → b ≤ j → j ≤ d → Gr' i j = gF C a b i j) → post (gF C a b c d) Gr') : p_X0_heaviest C Gr (nI a) (nI b) (nI c) (nI d) post := by
  unfold p_X0_heaviest
  refine pk_loop (fun n i G => p_X0_heaviest_3 C (nI a) (nI b) (nI c) (nI d) post n G (nI i)) (fun i G => a ≤ i ∧ ∀ p q, a ≤ p → p < i → b ≤ q → q ≤ d → G p q = gF C a b p q) (c + 1) a Gr (by omega) ⟨Nat.le_refl a, fun p q h1 h2 => by omega⟩ (fun n G hG => ?_) (fun n i G hi hG ih => ?_)
  · show p_X0_heaviest_3 _ _ _ _ _ _ _ _ _
    unfold p_X0_heaviest_3
    refine pk_lt c (c + 1) (fun _ => ⟨pk_in c 6 hc, pk_in d 6 hd, ?_⟩) (fun q => by omega)
    rw [nI_clamp (by omega), nI_clamp (by omega), hG.2 c d hac (by omega) hbd (by omega)]
    exact h G (fun i j h1 h2 h3 h4 => hG.2 i j h1 (by omega) h3 h4)
  · show p_X0_heaviest_3 _ _ _ _ _ _ _ _ _
    unfold p_X0_heaviest_3
    refine pk_lt c i (fun q => by omega) (fun _ => ?_)
    refine pk_loop (fun n j G => p_X0_heaviest_12 C (nI a) (nI b) (nI c) (nI d) post _ n G (nI i) (nI j)) (fun j G => b ≤ j ∧ ∀ p q, a ≤ p → b ≤ q → q ≤ d → (p < i ∨ (p = i ∧ q < j)) → G p q = gF C a b p q) (d + 1) b G (by omega) ⟨Nat.le_refl b, fun p q h1 h2 h3 h4 => hG.2 p q h1 (by omega) h2 h3⟩ (fun n' G' hG' => ?_) (fun n' j G' hj hG' ih2 => ?_)
    · show p_X0_heaviest_12 _ _ _ _ _ _ _ _ _ _ _
      unfold p_X0_heaviest_12
      refine pk_lt d (d + 1) (fun _ => ?_) (fun q => by omega)
      rw [nI_1]
      exact ih G' ⟨by omega, fun p q h1 h2 h3 h4 => hG'.2 p q h1 h3 h4 (by omega)⟩
    · show p_X0_heaviest_12 _ _ _ _ _ _ _ _ _ _ _
      unfold p_X0_heaviest_12
      refine pk_lt d j (fun q => by omega) (fun _ => x_heavy1 hG.1 hG'.1 (by omega) (by omega) (fun q => hG'.2 _ _ (by omega) hG'.1 (by omega) (by omega)) (fun q => hG'.2 _ _ hG.1 (by omega) (by omega) (by omega)) ?_)
      refine ih2 _ ⟨by omega, fun p q h1 h2 h3 h4 => ?_⟩
      rw [up2_at]
      by_cases e : p = i ∧ q = j
      · rw [if_pos e, e.1, e.2]
      · rw [if_neg e]; exact hG'.2 p q h1 h2 h3 (by omega)
theorem m_heavy1 {C : Nat → Nat → Int32} {we G : Nat → Int32} {a b i j : Nat} {mm nn : Int32} {post : (Nat → Int32) → Prop} {k2 : (Nat → Int32) → Int32 → Prop} {k13 : (Nat → Int32) → Int32 → Int32 → Prop} (hw : ∀ i j, i < 6 → j < 6 → we (6 * i + j) = C i j) (ha : a ≤ i) (hb : b ≤ j) (hi : i < 6) (hj : j < 6) (hu : a < i → G (6 * (i - 1) + j) = gF C a b (i - 1) j) (hl : b < j → G (6 * i + (j - 1)) = gF C a b i (j - 1)) (h : k13 (upd G (6 * i + j) (gF C a b i j)) (nI i) (nI (j + 1))) :
    ((nI i ≤ nI a → p_X5_findBest_45 mm nn we (nI a) (nI b) post k2 k13 G (nI i) (nI j) 0) ∧ (¬ nI i ≤ nI a → (vp_in ((6 * (nI i - 1)) + nI j) 36 ∧ p_X5_findBest_45 mm nn we (nI a) (nI b) post k2 k13 G (nI i) (nI j) (G ((6 * (nI i - 1)) + nI j).toNatClampNeg)))) := by
  have hij : vp_in (nI (6 * i + j)) 36 := pk_in (6 * i + j) 36 (by omega)
  have h65 : ∀ s t, s = (if a < i then gF C a b (i - 1) j else 0) → t = (if b < j then gF C a b i (j - 1) else 0) → p_X5_findBest_71 mm nn we (nI a) (nI b) post k2 k13 G (nI i) (nI j) s t := by
    intro s t hs ht
    unfold p_X5_findBest_71
    rw [n6, nI_clamp (show 6 * i + j < 2 ^ 31 by omega)]
    refine m_greater ⟨hij, hij, ?_⟩
    rw [nI_1]
    have e : mxI s t + we (6 * i + j) = gF C a b i j := by rw [gF_eq, ← hs, ← ht, hw i j hi hj, Int32.add_comm]
    rw [e]; exact h
  have h41 : ∀ s, s = (if a < i then gF C a b (i - 1) j else 0) → p_X5_findBest_45 mm nn we (nI a) (nI b) post k2 k13 G (nI i) (nI j) s := by
    intro s hs
    unfold p_X5_findBest_45
    rw [n6]
    refine pk_le j b (fun q => h65 _ _ hs (by rw [if_neg (by omega)])) (fun q => ⟨pk_in (6 * i + j - 1) 36 (by omega) (nI_m1 (by omega)), h65 _ _ hs ?_⟩)
    rw [nI_m1 (by omega), nI_clamp (by omega), if_pos q, show 6 * i + j - 1 = 6 * i + (j - 1) by omega]; exact hl q
  refine pk_le i a (fun q => h41 _ (by rw [if_neg (by omega)])) (fun q => ?_)
  rw [nI_m1 (by omega), n6]
  refine ⟨pk_in (6 * (i - 1) + j) 36 (by omega), h41 _ ?_⟩
  rw [nI_clamp (by omega), if_pos q]; exact hu q
theorem m_heavy {C : Nat → Nat → Int32} {we be : Nat → Int32} {a b m n : Nat} (hm : m ≤ 6) (hn : n ≤ 6) (ham : a ≤ m) (hbn : b ≤ n) (hw : ∀ i j, i < 6 → j < 6 → we (6 * i + j) = C i j) {post : (Nat → Int32) → Prop} (h : ∀ be', (∀ i j, a ≤ i → i < m → b ≤ j → j < n → be' (6 * i + j) = gF C a b i j) → post be') : p_X5_findBest (nI m) (nI n) we be (nI a) (nI b) post := by
  unfold p_X5_findBest
  refine pk_loop (fun u i G => p_X5_findBest_2 (nI m) (nI n) we (nI a) (nI b) post u G (nI i)) (fun i G => a ≤ i ∧ ∀ p q, a ≤ p → p < i → b ≤ q → q < n → G (6 * p + q) = gF C a b p q) m a be ham ⟨Nat.le_refl a, fun p q h1 h2 => by omega⟩ (fun u G hG => ?_) (fun u i G hi hG ih => ?_)
  · show p_X5_findBest_2 _ _ _ _ _ _ _ _ _
    unfold p_X5_findBest_2
    exact pk_le m m (fun _ => h G (fun i j h1 h2 h3 h4 => hG.2 i j h1 h2 h3 h4)) (fun q => by omega)
  · show p_X5_findBest_2 _ _ _ _ _ _ _ _ _
    unfold p_X5_findBest_2
    refine pk_le m i (fun q => by omega) (fun _ => ?_)
    refine pk_loop (fun u j G => p_X5_findBest_13 (nI m) (nI n) we (nI a) (nI b) post _ u G (nI i) (nI j)) (fun j G => b ≤ j ∧ ∀ p q, a ≤ p → b ≤ q → q < n → (p < i ∨ (p = i ∧ q < j)) → G (6 * p + q) = gF C a b p q) n b G hbn ⟨Nat.le_refl b, fun p q h1 h2 h3 h4 => hG.2 p q h1 (by omega) h2 h3⟩ (fun n' G' hG' => ?_) (fun n' j G' hj hG' ih2 => ?_)
    · show p_X5_findBest_13 _ _ _ _ _ _ _ _ _ _ _
      unfold p_X5_findBest_13
      refine pk_le n n (fun _ => ?_) (fun q => by omega)
      rw [nI_1]
      exact ih G' ⟨by omega, fun p q h1 h2 h3 h4 => hG'.2 p q h1 h3 h4 (by omega)⟩
    · show p_X5_findBest_13 _ _ _ _ _ _ _ _ _ _ _
      unfold p_X5_findBest_13
      refine pk_le n j (fun q => by omega) (fun _ => m_heavy1 hw hG.1 hG'.1 (by omega) (by omega) (fun q => hG'.2 _ _ (by omega) hG'.1 (by omega) (by omega)) (fun q => hG'.2 _ _ hG.1 (by omega) (by omega) (by omega)) ?_)
      refine ih2 _ ⟨by omega, fun p q h1 h2 h3 h4 => ?_⟩
      rw [upd_at]
      by_cases e : p = i ∧ q = j
      · rw [if_pos (by omega), e.1, e.2]
      · rw [if_neg (by omega)]; exact hG'.2 p q h1 h2 h3 (by omega)
theorem st_best {M N : Int32} {C Pa : Nat → Nat → Int32} {mm nn : Int32} {we : Nat → Int32} (h : IG M N C Pa mm nn we) (Gr : Nat → Nat → Int32) (be : Nat → Int32) (x1 x2 : Int32) {K : (Nat → Nat → Int32) → (Nat → Int32) → Prop} (hK : ∀ Gr' be', K Gr' be') :
    p_X4_best M N C Gr x1 x2 (fun r Gr' => p_X5_best mm nn we be x1 x2 (fun r' be' => (r = r' → K Gr' be') ∧ (¬ r = r' → False))) := by
  obtain ⟨m, n, hm, hn, rfl, rfl, rfl, rfl, hw, hb, hPa⟩ := h
  unfold p_X4_best p_X5_best
  refine x_hasPlace (fun c => z1 ?_) (fun c => z0 (m_isPlace (fun q => absurd q c) (fun _ => z0 (fin_eq rfl (hK _ _)))))
  obtain ⟨i, j, hi, hj, rfl, rfl⟩ := isPl_of hm hn c
  refine x_heavy (a := 0) (b := 0) (by omega) (by omega) (by omega) (by omega) (fun G' hG => m_isPlace (fun _ => z1 (m_heavy (a := 0) (b := 0) hm.2 hn.2 (by omega) (by omega) hw (fun be' hbe => ?_))) (fun q => absurd c q))
  rw [n6, nI_clamp (by omega)]
  exact ⟨pk_in (6 * i + j) 36 (by omega), fin_eq (hbe i j (by omega) hi (by omega) hj).symm (hK _ _)⟩
theorem st_between {M N : Int32} {C Pa : Nat → Nat → Int32} {mm nn : Int32} {we : Nat → Int32} (h : IG M N C Pa mm nn we) (Gr : Nat → Nat → Int32) (be : Nat → Int32) (x1 x2 x3 x4 : Int32) {K : (Nat → Nat → Int32) → (Nat → Int32) → Prop} (hK : ∀ Gr' be', K Gr' be') :
    p_X4_between M N C Gr x1 x2 x3 x4 (fun r Gr' => p_X5_between mm nn we be x1 x2 x3 x4 (fun r' be' => (r = r' → K Gr' be') ∧ (¬ r = r' → False))) := by
  obtain ⟨m, n, hm, hn, rfl, rfl, rfl, rfl, hw, hb, hPa⟩ := h
  unfold p_X4_between p_X5_between
  refine x_hasPlace (fun c => z1 (x_hasPlace (fun c2 => z1 ?_) (fun c2 => z0 (m_isPlace (fun _ => z1 (m_isPlace (fun q => absurd q c2) (fun _ => z0 (fin_eq rfl (hK _ _))))) (fun q => absurd c q))))) (fun c => z0 (m_isPlace (fun q => absurd q c) (fun _ => z0 (fin_eq rfl (hK _ _)))))
  refine ⟨fun q => m_isPlace (fun _ => z1 (m_isPlace (fun _ => z1 ⟨fun _ => fin_eq rfl (hK _ _), fun q2 => absurd q q2⟩) (fun q2 => absurd c2 q2))) (fun q2 => absurd c q2), fun q => ⟨fun q3 => ?_, fun q3 => m_isPlace (fun _ => z1 (m_isPlace (fun _ => z1 ⟨fun q2 => absurd q2 q, fun q2 => ⟨fun q4 => absurd q4 q3, fun _ => fin_eq rfl (hK _ _)⟩⟩) (fun q2 => absurd c2 q2))) (fun q2 => absurd c q2)⟩⟩
  obtain ⟨i, j, hi, hj, rfl, rfl⟩ := isPl_of hm hn c
  obtain ⟨i2, j2, hi2, hj2, rfl, rfl⟩ := isPl_of hm hn c2
  have hii : i ≤ i2 := by
    have := le_not_lt.mpr q
    exact (nI_leI (by omega) (by omega)).mp this
  have hjj : j ≤ j2 := (nI_leI (by omega) (by omega)).mp q3
  refine x_heavy (by omega) (by omega) hii hjj (fun G' hG => m_isPlace (fun _ => z1 (m_isPlace (fun _ => z1 ⟨fun q2 => absurd q2 q, fun _ => ⟨fun _ => m_heavy hm.2 hn.2 (by omega) (by omega) hw (fun be' hbe => ?_), fun q4 => absurd q3 q4⟩⟩) (fun q => absurd c2 q))) (fun q => absurd c q))
  rw [n6, nI_clamp (by omega)]
  exact ⟨pk_in (6 * i2 + j2) 36 (by omega), fin_eq (hbe i2 j2 hii hi2 hjj hj2).symm (hK _ _)⟩
