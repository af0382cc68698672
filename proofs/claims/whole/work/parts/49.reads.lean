/-! the reading, in both -/
theorem am1 (a : Int32) : a + (-1) = a - 1 := (Int32.sub_eq_add_neg a 1).symm
theorem x_lastLess {L : Nat → Int32} {N : Nat → Nat → Int32} {r l x c0 : Nat} {f : Nat → Nat} (hr : r < 9) (hL : L r = nI l) (hl : l ≤ 40) (hf : ∀ c, c < l → N r c = nI (f c)) (hb : ∀ c, c < l → f c < 2 ^ 31) (hx : x < 2 ^ 31) (h0 : c0 < l) (h1 : f c0 < x) {post : Int32 → Prop} (h : post (nI (ll f x l))) : p_X2_lastLess L N (nI r) (nI x) post := by
  unfold p_X2_lastLess
  refine x_len hr ?_
  rw [hL]
  refine ⟨l + 1, ?_⟩
  have key : ∀ j, j ≤ l → (∀ c, j ≤ c → c < l → x ≤ f c) → p_X2_lastLess_8 L N (nI r) (nI x) post (j + 1) (nI j - 1) := by
    intro j
    induction j with
    | zero =>
      intro _ hno
      have := hno c0 (by omega) h0
      omega
    | succ j ih =>
      intro hj hno
      unfold p_X2_lastLess_8
      rw [nI_pred, nI_clamp (by omega), nI_clamp (by omega), hf j (by omega), am1]
      refine pk_lt j 0 (fun q => by omega) (fun _ => ⟨pk_in r 9 hr, pk_in j 40 (by omega), pk_lt (f j) x (fun q => ?_) (fun q => ih (by omega) (fun c hc hc2 => ?_)) rfl rfl (hb j (by omega)) hx⟩)
      · have e := ll_uni (x := x) l (show j < l by omega) q (fun c hc hc2 => hno c (by omega) hc2)
        rw [e]; exact h
      · by_cases e : c = j
        · subst e; exact q
        · exact hno c (by omega) hc2
  exact key l (Nat.le_refl l) (fun c hc hc2 => by omega)
theorem x_takeOutL {l : Nat → Nat} {L : Nat → Int32} {R P x1 : Int32} (hL : ∀ r, r < 9 → L r = nI (l r)) (hl : ∀ r, r < 9 → l r ≤ 40) {post : Int32 → Int32 → Int32 → (Nat → Int32) → (Nat → Nat → Int32) → Prop} : ∀ i E x N, i < 9 → JJ l i E x → (∀ r, r < 9 → ∀ c, c < l r → N r c = nI (E r c)) → (∀ N', (∀ r, r < 9 → ∀ c, c < l r → N' r c = nI ((upE l i E x).1 r c)) → post (nI (upE l i E x).2) R P L N') → p_X2_takeOut_10 x1 post (i + 1) R P L N (nI x) (nI i - 1)
  | 0, E, x, N, _, _, hN, h => by
    unfold p_X2_takeOut_10
    exact ⟨fun _ => h N hN, fun q => absurd (show nI 0 - 1 < 0 by decide) q⟩
  | i + 1, E, x, N, hi, hJ, hN, h => by
    unfold p_X2_takeOut_10
    obtain ⟨⟨a1, a2, a3⟩, a4⟩ := hJ.step hi
    have hb := hJ.1.2.2.2 i (by omega)
    have hx := hJ.2.1
    have hli := hl i (by omega)
    rw [nI_pred]
    refine pk_lt i 0 (fun q => by omega) (fun _ => x_lastLess (by omega) (hL i (by omega)) hli (hN i (by omega)) (fun c hc => by have := hb c hc; omega) (by omega) a1 a2 ?_)
    unfold p_X2_exchange
    refine x_has (by omega) (hL i (by omega)) (by omega) (by omega) (fun _ => z1 ?_) (fun q => by omega)
    have hi9 : vp_in (nI i) 9 := pk_in i 9 (by omega)
    have hp : vp_in (nI (ll (E i) x (l i))) 40 := pk_in (ll (E i) x (l i)) 40 (by omega)
    refine ⟨hi9, hp, hi9, hp, ?_⟩
    rw [nI_clamp (by omega), nI_clamp (by omega), hN i (by omega) _ a1, am1]
    refine x_takeOutL hL hl i _ _ _ (by omega) a4 (fun r hr c hc => ?_) h
    rw [up2_at]
    by_cases e : r = i ∧ c = ll (E i) x (l i)
    · rw [if_pos e, if_pos e]
    · rw [if_neg e, if_neg e]; exact hN r hr c hc
theorem x_takeLast {l : Nat → Nat} {e : Nat → Nat → Nat} {n r : Nat} {R P : Int32} {L : Nat → Int32} {N : Nat → Nat → Int32} (hC : CL l e n R P L N) (hn : n ≤ 9) (hrn : ∀ i, i < 9 → (i < n ↔ 0 < l i)) (hs : sm l ≤ 40) (hr : r < 9) (h1 : 1 ≤ l r) (h2 : r + 1 < 9 → l (r + 1) ≤ l r - 1) {post : Int32 → Int32 → Int32 → (Nat → Int32) → Prop} (h : ∀ n' R' P' L', n' ≤ 9 → (∀ i, i < 9 → (i < n' ↔ 0 < lD l r i)) → CL (lD l r) e n' R' P' L' N → post (nI (e r (l r - 1))) R' P' L') : p_X2_takeLast R P L N (nI r) post := by
  obtain ⟨rfl, rfl, hC3⟩ := hC
  have hle := sm_le (l := l) hr
  have hsm := sm_lD hr h1
  have hr9 : vp_in (nI r) 9 := pk_in r 9 hr
  have hc40 : vp_in (nI (l r - 1)) 40 := pk_in (l r - 1) 40 (by omega)
  have hL' : ∀ i, i < 9 → upd L r (nI (l r - 1)) i = nI (lD l r i) ∧ ∀ c, c < lD l r i → N i c = nI (e i c) := fun i hi => by
    obtain ⟨u1, u2⟩ := hC3 i hi
    refine ⟨?_, fun c hc => u2 c (Nat.lt_of_lt_of_le hc (lD_le l r i))⟩
    rw [upd_at]
    by_cases z : i = r
    · subst z; rw [if_pos rfl, lD_s]
    · rw [if_neg z, lD_n z]; exact u1
  unfold p_X2_takeLast p_X2_takeLast_55
  refine x_len hr ?_
  rw [(hC3 r hr).1, nI_m1 h1, nI_clamp (show r < 2 ^ 31 by omega), nI_clamp (show l r - 1 < 2 ^ 31 by omega), (hC3 r hr).2 _ (by omega), nI_m1 (show 1 ≤ sm l by omega), show sm l - 1 = sm (lD l r) by omega]
  refine pk_le 0 (l r - 1) (fun _ => ⟨hr9, ?_⟩) (fun q => by omega)
  by_cases z : l r = 1
  · have hnr : n = r + 1 := by
      have g1 := (hrn r hr).mpr (by omega)
      rcases Nat.lt_or_ge (r + 1) n with q | q
      · have := (hrn (r + 1) (by omega)).mp q
        have := h2 (by omega)
        omega
      · omega
    refine pk_eq (l r - 1) 0 (fun _ => pk_eq r (n - 1) (fun _ => ⟨hr9, hc40, ?_⟩) (fun q => by omega) rfl (nI_m1 (by omega))) (fun q => by omega)
    rw [nI_m1 (by omega)]
    refine h (n - 1) _ _ _ (by omega) (fun i hi => ?_) ⟨rfl, rfl, hL'⟩
    have := hrn i hi
    by_cases y : i = r
    · subst y; rw [lD_s]; omega
    · rw [lD_n y]; omega
  · have hfin := h n (nI n) (nI (sm (lD l r))) (upd L r (nI (l r - 1))) hn (fun i hi => by
      have := hrn i hi
      by_cases y : i = r
      · subst y; rw [lD_s]; omega
      · rw [lD_n y]; exact this) ⟨rfl, rfl, hL'⟩
    exact pk_eq (l r - 1) 0 (fun q => by omega) (fun _ => ⟨hr9, hc40, hfin⟩)
theorem x_rowEnd {l : Nat → Nat} {e : Nat → Nat → Nat} {n r t : Nat} {R P : Int32} {L : Nat → Int32} {N : Nat → Nat → Int32} (hC : CL l e n R P L N) (hn : n ≤ 9) (hrn : ∀ i, i < 9 → (i < n ↔ 0 < l i)) (hs : sm l ≤ 40) (he : ∀ i, i < 9 → ∀ c, c < l i → e i c ≤ 40) (hr : r < 9) (h1 : 1 ≤ l r) (ht : e r (l r - 1) = t) (ht2 : t ≤ 40) (hno : ∀ i, i < r → e i (l i - 1) ≠ t) {post : Int32 → Prop} (h : post (nI r)) : p_X2_rowEndingIn R L N (nI t) post := by
  obtain ⟨rfl, rfl, hC3⟩ := hC
  have hrl := (hrn r hr).mpr (by omega)
  unfold p_X2_rowEndingIn
  have hat : ∀ i, i ≤ r → ∀ {post : Int32 → Prop}, post (nI (e i (l i - 1))) → vp_in (nI i) 9 ∧ p_X2_at L N (nI i) ((L (nI i).toNatClampNeg) - 1) post := fun i hi post hp => by
    have g := (hrn i (by omega)).mp (by omega)
    have hle := sm_le (l := l) (show i < 9 by omega)
    obtain ⟨u1, u2⟩ := hC3 i (by omega)
    refine ⟨pk_in i 9 (by omega), ?_⟩
    rw [nI_clamp (by omega), u1, nI_m1 (by omega)]
    refine x_at (by omega) u1 (by omega) (by omega) ?_
    rw [u2 _ (by omega)]; exact hp
  refine pk_loop (fun u i (_ : Unit) => p_X2_rowEndingIn_2 (nI n) L N (nI t) post u (nI i)) (fun i _ => i ≤ r) r 0 () (by omega) (Nat.zero_le r) (fun u _ _ => ?_) (fun u i _ hi _ ih => ?_)
  · show p_X2_rowEndingIn_2 _ _ _ _ _ _ _
    unfold p_X2_rowEndingIn_2
    refine pk_le n r (fun q => by omega) (fun _ => hat r (Nat.le_refl r) ?_)
    rw [ht]
    exact ⟨fun _ => h, fun q => absurd rfl q⟩
  · show p_X2_rowEndingIn_2 _ _ _ _ _ _ _
    unfold p_X2_rowEndingIn_2
    have g := (hrn i (by omega)).mp (by omega)
    have := he i (by omega) (l i - 1) (by omega)
    refine pk_le n i (fun q => by omega) (fun _ => hat i (by omega) (pk_eq (e i (l i - 1)) t (fun q => absurd q (hno i hi)) (fun _ => ?_)))
    rw [nI_1]
    exact ih () (by omega)
theorem x_read {l : Nat → Nat} {e Q : Nat → Nat → Nat} {T n m : Nat} {ρ : Nat → Nat} (hT : TB l e) (hQ : RQ l l Q T) (hs : sm l = T) (h40 : T ≤ 40) (hρ : ∀ v, 1 ≤ v → v ≤ T → ρ v < 9 ∧ ∃ c, c < l (ρ v) ∧ Q (ρ v) c = v) {dr aL bL : Nat → Int32} {aR aP bR bP : Int32} {aN bN : Nat → Nat → Int32} (hA : CL l e n aR aP aL aN) (hB : CL l Q m bR bP bL bN) (hn : n ≤ 9) (hm : m ≤ 9) (hrn : ∀ i, i < 9 → (i < n ↔ 0 < l i)) (hrm : ∀ i, i < 9 → (i < m ↔ 0 < l i)) {post : (Nat → Int32) → Int32 → Int32 → (Nat → Int32) → (Nat → Nat → Int32) → Int32 → Int32 → (Nat → Int32) → Prop} (h : ∀ dr' aR' aP' aL' aN' bR' bP' bL', (∀ t, t < T → dr' t = nI ((rdS ρ T l e T).2.2 t)) → post dr' aR' aP' aL' aN' bR' bP' bL') : p_X4_readLaidIntoDraft dr aR aP aL aN bR bP bL bN (nI T) post := by
  unfold p_X4_readLaidIntoDraft
  refine pk_loop (fun u d (s : (Nat → Int32) × (Int32 × Int32 × (Nat → Int32) × (Nat → Nat → Int32)) × (Int32 × Int32 × (Nat → Int32))) => p_X4_readLaidIntoDraft_2 bN (nI T) post u s.1 s.2.1.1 s.2.1.2.1 s.2.1.2.2.1 s.2.1.2.2.2 s.2.2.1 s.2.2.2.1 s.2.2.2.2 (nI (T - d))) (fun d s => (∃ n, n ≤ 9 ∧ (∀ i, i < 9 → (i < n ↔ 0 < (rdS ρ T l e d).1 i)) ∧ CL (rdS ρ T l e d).1 (rdS ρ T l e d).2.1 n s.2.1.1 s.2.1.2.1 s.2.1.2.2.1 s.2.1.2.2.2) ∧ (∃ n, n ≤ 9 ∧ (∀ i, i < 9 → (i < n ↔ 0 < (rdS ρ T l e d).1 i)) ∧ CL (rdS ρ T l e d).1 Q n s.2.2.1 s.2.2.2.1 s.2.2.2.2 bN) ∧ ∀ t, T - d ≤ t → t < T → s.1 t = nI ((rdS ρ T l e d).2.2 t)) T 0 (dr, (aR, aP, aL, aN), (bR, bP, bL)) (by omega) ⟨⟨n, hn, hrn, hA⟩, ⟨m, hm, hrm, hB⟩, fun t h1 h2 => by omega⟩ (fun u s hs' => ?_) (fun u d s hd hs' ih => ?_)
  · show p_X4_readLaidIntoDraft_2 _ _ _ _ _ _ _ _ _ _ _ _ _
    unfold p_X4_readLaidIntoDraft_2
    exact pk_lt (T - T) 1 (fun _ => h _ _ _ _ _ _ _ _ (fun t ht => hs'.2.2 t (by omega) ht)) (fun q => by omega)
  · show p_X4_readLaidIntoDraft_2 _ _ _ _ _ _ _ _ _ _ _ _ _
    unfold p_X4_readLaidIntoDraft_2
    obtain ⟨⟨n1, n2, n3, n4⟩, ⟨m1, m2, m3, m4⟩, hdr⟩ := hs'
    obtain ⟨r1, r2, r3, r4⟩ := RD_all hT hQ hs hρ d (by omega)
    have hrho := hρ (T - d) (by omega) (by omega)
    obtain ⟨a1, a2, a3⟩ := r2.last (by omega) hrho
    have hr := hrho.1
    have hJ := r1.start hr a1 a3
    refine pk_lt (T - d) 1 (fun q => by omega) (fun _ => ?_)
    refine x_rowEnd m4 m2 m3 (by omega) (fun i hi c hc => by have := r2.2.2.2.1 i hi c hc; omega) hr a1 a2 (by omega) (fun i hi q => ?_) ?_
    · have gi : 0 < (rdS ρ T l e d).1 i := (m3 i (by omega)).mp (by have := (m3 _ hr).mpr (by omega); omega)
      have l1 := r2.1 i (by omega)
      have l2 := r2.1 _ hr
      have := (r2.2.2.2.2.2 i _ (ρ (T - d)) _ (by omega) (show (rdS ρ T l e d).1 i - 1 < l i by omega) hr (show (rdS ρ T l e d).1 (ρ (T - d)) - 1 < l (ρ (T - d)) by omega) (by rw [q, a2])).1
      omega
    · refine x_takeLast m4 m2 m3 (by omega) hr a1 a3 (fun m' bR' bP' bL' m5 m6 m7 => ?_)
      unfold p_X2_takeOut
      refine x_takeLast n4 n2 n3 (by omega) hr a1 a3 (fun n' aR' aP' aL' n5 n6 n7 => ?_)
      refine ⟨ρ (T - d) + 1, x_takeOutL (fun i hi => (n7.2.2 i hi).1) (fun i hi => by have := sm_le (l := lD (rdS ρ T l e d).1 (ρ (T - d))) hi; have := sm_lD hr a1; omega) _ _ _ _ hr hJ (fun i hi c hc => (n7.2.2 i hi).2 c hc) (fun N' hN' => ?_)⟩
      rw [nI_m1 (by omega), am1, nI_m1 (by omega), nI_clamp (by omega), show T - d - 1 = T - (d + 1) by omega]
      refine ⟨pk_in (T - (d + 1)) 40 (by omega), ih (upd s.1 (T - (d + 1)) (nI (upE (lD (rdS ρ T l e d).1 (ρ (T - d))) (ρ (T - d)) (rdS ρ T l e d).2.1 ((rdS ρ T l e d).2.1 (ρ (T - d)) ((rdS ρ T l e d).1 (ρ (T - d)) - 1))).2), (aR', aP', aL', N'), (bR', bP', bL')) ⟨⟨n', n5, n6, n7.1, n7.2.1, fun i hi => ⟨(n7.2.2 i hi).1, fun c hc => hN' i hi c hc⟩⟩, ⟨m', m5, m6, m7⟩, fun t h1 h2 => ?_⟩⟩
      show upd s.1 (T - (d + 1)) _ t = nI (if t = T - d - 1 then _ else _)
      rw [upd_at]
      by_cases z : t = T - (d + 1)
      · rw [if_pos z, if_pos (by omega)]
      · rw [if_neg z, if_neg (by omega)]; exact hdr t (by omega) h2
theorem m_up {l : Nat → Nat} {lq rp rq se : Nat → Int32} {le : Int32} {t : Nat} (ht : 1 ≤ t ∧ t ≤ 40) (hL : ∀ r, r < 9 → rp r = nI (l r)) (hl : ∀ r, r < 9 → l r ≤ 40) {wo : Nat → Int32} {post : Int32 → (Nat → Int32) → Int32 → (Nat → Int32) → (Nat → Int32) → (Nat → Int32) → (Nat → Int32) → Prop} {k26 : (Nat → Int32) → Int32 → (Nat → Int32) → (Nat → Int32) → (Nat → Int32) → (Nat → Int32) → Int32 → Prop} : ∀ i E x lp, i < 9 → JJ l i E x → (∀ r, r < 9 → ∀ c, c < l r → lp (40 * r + c) = nI (E r c)) → (∀ lp', (∀ r, r < 9 → ∀ c, c < l r → lp' (40 * r + c) = nI ((upE l i E x).1 r c)) → k26 (upd wo (t - 1) (nI (upE l i E x).2)) le lp' rp rq se (nI (t - 1))) → p_X5_back_112 lq post k26 (i + 1) wo le lp rp rq se (nI t) (nI x) (nI i - 1)
  | 0, E, x, lp, _, _, hN, h => by
    unfold p_X5_back_112
    refine ⟨fun _ => ?_, fun q => absurd (show nI 0 - 1 < 0 by decide) q⟩
    rw [am1, nI_m1 ht.1, nI_clamp (by omega)]
    exact ⟨pk_in (t - 1) 40 (by omega), h lp hN⟩
  | i + 1, E, x, lp, hi, hJ, hN, h => by
    unfold p_X5_back_112
    obtain ⟨⟨a1, a2, a3⟩, a4⟩ := hJ.step hi
    have hb := hJ.1.2.2.2 i (by omega)
    have hx := hJ.2.1
    have hli := hl i (by omega)
    rw [nI_pred, nI_clamp (show i < 2 ^ 31 by omega), hL i (by omega)]
    refine pk_lt i 0 (fun q => by omega) (fun _ => ⟨pk_in i 9 (by omega), l i + 1, ?_⟩)
    have key : ∀ j, j ≤ l i → (∀ c, j ≤ c → c < l i → x ≤ E i c) → p_X5_back_128 lq post k26 (fun wo le lp rp rq se x1 x3 x4 => p_X5_back_112 lq post k26 (i + 1) wo le lp rp rq se x1 x3 x4) (j + 1) wo le lp rp rq se (nI t) (nI x) (nI i) (nI j - 1) := by
      intro j
      induction j with
      | zero =>
        intro _ hno
        have := hno _ (Nat.zero_le _) a1
        omega
      | succ j ih =>
        intro hj hno
        unfold p_X5_back_128
        have hbj := hb j (by omega)
        have hin : vp_in (nI (40 * i + j)) 360 := pk_in (40 * i + j) 360 (by omega)
        rw [nI_pred, n40, nI_clamp (show 40 * i + j < 2 ^ 31 by omega), hN i (by omega) j (by omega), am1, am1]
        refine ⟨hin, pk_lt (E i j) x (fun q => ⟨hin, hin, ?_⟩) (fun q => ih (by omega) (fun c hc hc2 => ?_))⟩
        · have e := ll_uni (x := x) (l i) (show j < l i by omega) q (fun c hc hc2 => hno c (by omega) hc2)
          have rcc := m_up (lq := lq) (rq := rq) (se := se) (le := le) (wo := wo) (post := post) (k26 := k26) ht hL hl i _ _ (upd lp (40 * i + j) (nI x)) (by omega) a4 (fun r hr c hc => ?_) h
          · rw [← e] at rcc; exact rcc
          · have := hl r hr
            rw [upd_at]
            by_cases z : r = i ∧ c = ll (E i) x (l i)
            · rw [if_pos z, if_pos (by omega)]
            · rw [if_neg z, if_neg (by omega)]; exact hN r hr c hc
        · by_cases e : c = j
          · subst e; exact q
          · exact hno c (by omega) hc2
    exact key (l i) (Nat.le_refl _) (fun c hc hc2 => by omega)
