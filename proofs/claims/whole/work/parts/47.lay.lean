/-! what is laid: lay, unlay -/
def ps (l : Nat → Nat) : Nat → Nat
  | 0 => 0
  | k + 1 => ps l k + l k
def sm (l : Nat → Nat) : Nat := ps l 9
theorem sm_eq (l : Nat → Nat) : sm l = l 0 + l 1 + l 2 + l 3 + l 4 + l 5 + l 6 + l 7 + l 8 := by
  show 0 + l 0 + l 1 + l 2 + l 3 + l 4 + l 5 + l 6 + l 7 + l 8 = _
  omega
theorem ps_mono (l : Nat → Nat) (k : Nat) : ∀ d, ps l k ≤ ps l (k + d)
  | 0 => Nat.le_refl _
  | d + 1 => by
    have := ps_mono l k d
    show _ ≤ ps l (k + d) + l (k + d)
    omega
theorem ps_le {l : Nat → Nat} {k m : Nat} (h : k ≤ m) : ps l k ≤ ps l m := by
  have := ps_mono l k (m - k)
  rwa [show k + (m - k) = m by omega] at this
theorem sm_le {l : Nat → Nat} {r : Nat} (hr : r < 9) : ps l r + l r ≤ sm l := ps_le (l := l) (show r + 1 ≤ 9 by omega)
theorem ps_congr {l m : Nat → Nat} : ∀ k, (∀ r, r < k → l r = m r) → ps l k = ps m k
  | 0, _ => rfl
  | k + 1, h => by
    show ps l k + l k = ps m k + m k
    rw [ps_congr k (fun r hr => h r (by omega)), h k (by omega)]
theorem ps_inc {l : Nat → Nat} {r v : Nat} : ∀ k, r < k → ps (fun i => if i = r then v else l i) k + l r = ps l k + v
  | 0, h => absurd h (Nat.not_lt_zero r)
  | k + 1, h => by
    show ps _ k + (if k = r then v else l k) + l r = ps l k + l k + v
    by_cases e : k = r
    · subst e
      rw [if_pos rfl, ps_congr (m := l) k (fun i hi => by rw [if_neg (by omega)])]
      omega
    · rw [if_neg e]
      have := ps_inc (l := l) (v := v) k (show r < k by omega)
      omega
def LTp (l : Nat → Nat) (e : Nat → Nat → Nat) (n : Nat) : Prop := (∀ r, r < 9 → ∀ c, c < l r → 1 ≤ e r c ∧ e r c ≤ 40) ∧ sm l ≤ 40 ∧ n ≤ 9 ∧ ∀ r, r < 9 → (r < n ↔ 0 < l r)
def CL (l : Nat → Nat) (e : Nat → Nat → Nat) (n : Nat) (R P : Int32) (L : Nat → Int32) (N : Nat → Nat → Int32) : Prop := R = nI n ∧ P = nI (sm l) ∧ ∀ r, r < 9 → L r = nI (l r) ∧ ∀ c, c < l r → N r c = nI (e r c)
def ML (l : Nat → Nat) (e : Nat → Nat → Nat) (la ro : Nat → Int32) : Prop := ∀ r, r < 9 → ro r = nI (l r) ∧ ∀ c, c < l r → la (40 * r + c) = nI (e r c)
def IT (R P : Int32) (L : Nat → Int32) (N : Nat → Nat → Int32) (la ro : Nat → Int32) : Prop := ∃ l e n, LTp l e n ∧ CL l e n R P L N ∧ ML l e la ro
def IL (aR aP : Int32) (aL : Nat → Int32) (aN : Nat → Nat → Int32) (bR bP : Int32) (bL : Nat → Int32) (bN : Nat → Nat → Int32) (lp lq rp rq : Nat → Int32) : Prop := IT aR aP aL aN lp rp ∧ IT bR bP bL bN lq rq
theorem IT_0 {L : Nat → Int32} {N : Nat → Nat → Int32} {la ro : Nat → Int32} (h : ∀ r, r < 9 → L r = 0) (h2 : ∀ r, r < 9 → ro r = 0) : IT 0 0 L N la ro :=
  ⟨fun _ => 0, fun _ _ => 0, 0, ⟨fun r _ c hc => absurd hc (Nat.not_lt_zero c), by rw [sm_eq]; omega, by omega, fun r _ => Iff.rfl.trans ⟨fun q => absurd q (Nat.not_lt_zero r), fun q => absurd q (Nat.lt_irrefl 0)⟩⟩, ⟨rfl, rfl, fun r hr => ⟨h r hr, fun c hc => absurd hc (Nat.not_lt_zero c)⟩⟩, fun r hr => ⟨h2 r hr, fun c hc => absurd hc (Nat.not_lt_zero c)⟩⟩
theorem m_total {l : Nat → Nat} {ro : Nat → Int32} (h : ∀ r, r < 9 → ro r = nI (l r)) {post : Int32 → Prop} (hp : post (nI (sm l))) : p_X5_total ro post := by
  unfold p_X5_total
  refine pk_loop (fun u r x => p_X5_total_4 ro post u x (nI r)) (fun r x => x = nI (ps l r)) 9 0 0 (by omega) rfl (fun u x hx => ?_) (fun u r x hr hx ih => ?_)
  · show p_X5_total_4 _ _ _ _ _
    unfold p_X5_total_4
    exact pk_le 9 9 (fun _ => by rw [hx]; exact hp) (fun q => by omega)
  · show p_X5_total_4 _ _ _ _ _
    unfold p_X5_total_4
    rw [nI_clamp (by omega), h r hr, nI_1, hx, nI_add]
    exact pk_le 9 r (fun q => by omega) (fun _ => ⟨pk_in r 9 hr, ih _ rfl⟩)
theorem m_manyRows {l : Nat → Nat} {n : Nat} {ro : Nat → Int32} (h : ∀ r, r < 9 → ro r = nI (l r)) (hl : ∀ r, r < 9 → l r < 2 ^ 31) (hn : n ≤ 9) (hr : ∀ r, r < 9 → (r < n ↔ 0 < l r)) {post : Int32 → Prop} (hp : post (nI n)) : p_X5_manyRows ro post := by
  unfold p_X5_manyRows
  refine pk_loop (fun u r (_ : Unit) => p_X5_manyRows_2 ro post u (nI r)) (fun r _ => r ≤ n) n 0 () (by omega) (Nat.zero_le n) (fun u _ _ => ?_) (fun u r _ h1 _ ih => ?_)
  · show p_X5_manyRows_2 _ _ _ _
    unfold p_X5_manyRows_2
    refine pk_le 9 n (fun _ => hp) (fun q => ⟨pk_in n 9 q, ?_⟩)
    rw [nI_clamp (by omega), h n q]
    have := hr n q
    exact pk_le (l n) 0 (fun _ => hp) (fun q2 => by omega) rfl rfl (hl n q)
  · show p_X5_manyRows_2 _ _ _ _
    unfold p_X5_manyRows_2
    have := hr r (by omega)
    rw [nI_clamp (by omega), h r (by omega), nI_1]
    exact pk_le 9 r (fun q => by omega) (fun _ => ⟨pk_in r 9 (by omega), pk_le (l r) 0 (fun q => by omega) (fun _ => ih () (by omega)) rfl rfl (hl r (by omega))⟩)
/-- one more at the end of row r -/
def lS (l : Nat → Nat) (r : Nat) : Nat → Nat := fun i => if i = r then l r + 1 else l i
def eS (l : Nat → Nat) (e : Nat → Nat → Nat) (r v : Nat) : Nat → Nat → Nat := fun i j => if i = r ∧ j = l r then v else e i j
theorem sm_lS {l : Nat → Nat} {r : Nat} (hr : r < 9) : sm (lS l r) = sm l + 1 := by
  have := ps_inc (l := l) (v := l r + 1) 9 hr
  show ps (lS l r) 9 = ps l 9 + 1
  unfold lS
  omega
theorem LTp.app {l : Nat → Nat} {e : Nat → Nat → Nat} {n r v : Nat} (h : LTp l e n) (hr : r < 9) (hrn : r ≤ n) (hs : sm l < 40) (hv : 1 ≤ v ∧ v ≤ 40) : LTp (lS l r) (eS l e r v) (max n (r + 1)) := by
  obtain ⟨h1, h2, h3, h4⟩ := h
  refine ⟨fun i hi c hc => ?_, by rw [sm_lS hr]; omega, by omega, fun i hi => ?_⟩
  · unfold eS
    by_cases q : i = r ∧ c = l r
    · rw [if_pos q]; exact hv
    · rw [if_neg q]
      refine h1 i hi c ?_
      unfold lS at hc
      by_cases z : i = r
      · rw [if_pos z] at hc; subst z; omega
      · rw [if_neg z] at hc; exact hc
  · unfold lS
    by_cases z : i = r
    · rw [if_pos z]; omega
    · rw [if_neg z, ← h4 i hi]; omega
theorem x_lay1 {l : Nat → Nat} {e : Nat → Nat → Nat} {n v : Nat} {R P : Int32} {L : Nat → Int32} {N : Nat → Nat → Int32} (h : LTp l e n) (hC : CL l e n R P L N) {x2 : Int32} {A F : Prop} {post : Int32 → Int32 → Int32 → (Nat → Int32) → (Nat → Nat → Int32) → Prop}
    (hA : (∀ r, r < 9 → r ≤ n → x2 ≠ nI r) → A) (hF : ∀ r, r < 9 → r ≤ n → x2 = nI r → sm l = 40 → F) (hO : ∀ r R' P' L' N', r < 9 → r ≤ n → x2 = nI r → sm l < 40 → CL (lS l r) (eS l e r v) (max n (r + 1)) R' P' L' N' → post (nI (l r + 1)) R' P' L' N') :
    p_X2_rowCount R (fun r_16 => p_X4_isWithin x2 0 (if 8 < r_16 then 8 else r_16) (fun r_17 => ((r_17 = 0 → A) ∧ (¬ r_17 = 0 → p_X2_placeCount P (fun r_19 => ((r_19 < 40 → p_X2_append R P L N x2 (nI v) (fun R_21 P_22 L_23 N_24 => p_X2_lengthOf L_23 x2 (fun r_25 => post r_25 R_21 P_22 L_23 N_24))) ∧ (¬ r_19 < 40 → F))))))) := by
  obtain ⟨h1, h2, h3, h4⟩ := h
  obtain ⟨rfl, rfl, hC3⟩ := hC
  unfold p_X2_rowCount p_X2_placeCount
  have e8 : (if (8 : Int32) < nI n then (8 : Int32) else nI n) = nI (min n 8) := by
    rw [show (8 : Int32) = nI 8 from rfl]
    by_cases q : 8 < n
    · rw [if_pos (nI_lt q (by omega)), Nat.min_eq_right (by omega)]
    · rw [if_neg (nI_nlt (by omega) (by omega)), Nat.min_eq_left (by omega)]
  dsimp only
  rw [e8]
  refine x_within (fun c => z1 ?_) (fun c => z0 (hA (fun r hr hrn e => c ?_)))
  · obtain ⟨r, hr, rfl⟩ := n_of_le rfl (by omega) c.1 c.2
    obtain ⟨t1, t2⟩ := hC3 r (by omega)
    have hl := sm_le (l := l) (show r < 9 by omega)
    refine pk_lt (sm l) 40 (fun q => x_append (by omega) t1 (by omega) q h3 rfl (x_len (by omega) ?_)) (fun q => hF r (by omega) (by omega) rfl (by omega))
    rw [pk_us]
    refine hO r _ _ _ _ (by omega) (by omega) rfl q ⟨rfl, by rw [sm_lS (by omega)], fun i hi => ?_⟩
    unfold lS eS
    rw [upd_at]
    obtain ⟨u1, u2⟩ := hC3 i hi
    by_cases z : i = r
    · subst z
      rw [if_pos rfl, if_pos rfl]
      refine ⟨rfl, fun c hc => ?_⟩
      rw [up2_at]
      by_cases y : c = l i
      · rw [if_pos ⟨rfl, y⟩, if_pos ⟨rfl, y⟩]
      · rw [if_neg (fun q => y q.2), if_neg (fun q => y q.2)]; exact u2 c (by omega)
    · rw [if_neg z, if_neg z]
      refine ⟨u1, fun c hc => ?_⟩
      rw [up2_at, if_neg (fun q => z q.1), if_neg (fun q => z q.1)]; exact u2 c hc
  · rw [e]
    exact ⟨nI_pos' (by omega), nI_le (by omega) (by omega)⟩
theorem m_lay1 {l : Nat → Nat} {e : Nat → Nat → Nat} {n r v : Nat} {la ro : Nat → Int32} (h : LTp l e n) (hM : ML l e la ro) (hr : r < 9) {A F : Prop} {post : Int32 → (Nat → Int32) → (Nat → Int32) → Prop}
    (hA : n < r → A) (hF : r ≤ n → sm l = 40 → F) (hO : r ≤ n → sm l < 40 → ∀ la' ro', ML (lS l r) (eS l e r v) la' ro' → post (nI (l r + 1)) la' ro') :
    p_X5_manyRows ro (fun r_37 => ((nI r ≤ r_37 → p_X5_total ro (fun r_39 => ((r_39 = 40 → F) ∧ (¬ r_39 = 40 → (vp_in (nI r) 9 ∧ (vp_in ((40 * nI r) + (ro (nI r).toNatClampNeg)) 360 ∧ (vp_in (nI r) 9 ∧ (vp_in (nI r) 9 ∧ (vp_in (nI r) 9 ∧ post ((upd ro ((nI r).toNatClampNeg) ((ro (nI r).toNatClampNeg) + 1)) (nI r).toNatClampNeg) (upd la (((40 * nI r) + (ro (nI r).toNatClampNeg)).toNatClampNeg) (nI v)) (upd ro ((nI r).toNatClampNeg) ((ro (nI r).toNatClampNeg) + 1))))))))))) ∧ (¬ nI r ≤ r_37 → A))) := by
  obtain ⟨h1, h2, h3, h4⟩ := h
  have hl : ∀ r, r < 9 → l r ≤ 40 := fun r hr => by have := sm_le (l := l) hr; omega
  refine m_manyRows (fun r hr => (hM r hr).1) (fun r hr => by have := hl r hr; omega) h3 h4 ?_
  have hr9 : vp_in (nI r) 9 := pk_in r 9 hr
  refine pk_le r n (fun q => m_total (fun r hr => (hM r hr).1) (pk_eq (sm l) 40 (fun q2 => hF q q2) (fun q2 => ?_))) (fun q => hA q)
  have hlr := sm_le (l := l) hr
  rw [nI_clamp (by omega), (hM r hr).1, n40, nI_1, nI_clamp (by omega), pk_us]
  refine ⟨hr9, pk_in (40 * r + l r) 360 (by omega), hr9, hr9, hr9, hO q (by omega) _ _ (fun i hi => ?_)⟩
  unfold lS eS
  rw [upd_at]
  obtain ⟨u1, u2⟩ := hM i hi
  have hli := hl i hi
  by_cases z : i = r
  · subst z
    rw [if_pos rfl, if_pos rfl]
    refine ⟨rfl, fun c hc => ?_⟩
    rw [upd_at]
    by_cases y : c = l i
    · rw [if_pos (by omega), if_pos ⟨rfl, y⟩]
    · rw [if_neg (by omega), if_neg (fun q => y q.2)]; exact u2 c (by omega)
  · rw [if_neg z, if_neg z]
    refine ⟨u1, fun c hc => ?_⟩
    rw [upd_at, if_neg (by omega), if_neg (fun q => z q.1)]; exact u2 c hc
theorem st_lay {aR aP bR bP : Int32} {aL bL lp lq rp rq : Nat → Int32} {aN bN : Nat → Nat → Int32} (h : IL aR aP aL aN bR bP bL bN lp lq rp rq) (x1 x2 x3 : Int32) {K : Int32 → Int32 → (Nat → Int32) → (Nat → Nat → Int32) → Int32 → Int32 → (Nat → Int32) → (Nat → Nat → Int32) → (Nat → Int32) → (Nat → Int32) → (Nat → Int32) → (Nat → Int32) → Prop} (hK : ∀ aR' aP' aL' aN' bR' bP' bL' bN' lp' lq' rp' rq', IL aR' aP' aL' aN' bR' bP' bL' bN' lp' lq' rp' rq' → K aR' aP' aL' aN' bR' bP' bL' bN' lp' lq' rp' rq') :
    p_X4_lay aR aP aL aN bR bP bL bN x1 x2 x3 (fun r aR' aP' aL' aN' bR' bP' bL' bN' => p_X5_lay lp lq rp rq x1 x2 x3 (fun r' lp' lq' rp' rq' => (r = r' → K aR' aP' aL' aN' bR' bP' bL' bN' lp' lq' rp' rq') ∧ (¬ r = r' → False))) := by
  have hh := hK _ _ _ _ _ _ _ _ _ _ _ _ h
  obtain ⟨⟨l, e, n, a1, a2, a3⟩, ⟨l', e', n', b1, b2, b3⟩⟩ := id h
  unfold p_X4_lay
  refine x_which (fun c => z1 ?_) (fun c => z0 (by unfold p_X5_lay; exact m_inF (a := 0) c (z0 (fin_eq rfl hh))))
  refine x_within (fun c3 => z1 ?_) (fun c3 => z0 (by unfold p_X5_lay; exact m_inT (a := 0) c (z1 (m_inF (a := 1) c3 (z0 (fin_eq rfl hh))))))
  obtain ⟨v, hv, rfl⟩ := n_of_le (show (40 : Int32) = nI 40 from rfl) (by omega) (Int32.le_trans (by decide) c3.1) c3.2
  have hv1 : 1 ≤ v := (nI_leI (a := 1) (by decide) (by omega)).mp c3.1
  have h8 : ∀ r, r < 9 → 0 ≤ nI r ∧ nI r ≤ 8 := fun r hr => ⟨nI_pos' (by omega), nI_le (b := 8) (by omega) (by decide)⟩
  refine ⟨fun e0 => ?_, fun e0 => ?_⟩
  · have mod : ∀ r (A : Int32), r < 9 → x2 = nI r → ∀ aR' aP' aL' aN', (n < r → K aR' aP' aL' aN' bR bP bL bN lp lq rp rq ∧ A = -1) → (r ≤ n → sm l = 40 → K aR' aP' aL' aN' bR bP bL bN lp lq rp rq ∧ A = -3) → (r ≤ n → sm l < 40 → A = nI (l r + 1) ∧ ∀ lp' rp', ML (lS l r) (eS l e r v) lp' rp' → K aR' aP' aL' aN' bR bP bL bN lp' lq rp' rq) → p_X5_lay lp lq rp rq x1 x2 (nI v) (fun r' lp' lq' rp' rq' => (A = r' → K aR' aP' aL' aN' bR bP bL bN lp' lq' rp' rq') ∧ (¬ A = r' → False)) := by
      intro r A hr ex aR' aP' aL' aN' k1 k2 k3
      subst ex
      unfold p_X5_lay
      refine m_inT (a := 0) c (z1 (m_inT (a := 1) c3 (z1 (m_inT (a := 0) (h8 r hr) (z1 ⟨fun _ => ⟨fun _ => ?_, fun q => absurd e0 q⟩, fun q => absurd e0 q⟩)))))
      exact m_lay1 (post := fun r' lp' rp' => (A = r' → K aR' aP' aL' aN' bR bP bL bN lp' lq rp' rq) ∧ (¬ A = r' → False)) a1 a3 hr (fun q => fin_eq (k1 q).2 (k1 q).1) (fun q q2 => fin_eq (k2 q q2).2 (k2 q q2).1) (fun q q2 la' ro' hM => fin_eq (k3 q q2).1 ((k3 q q2).2 la' ro' hM))
    refine x_lay1 (v := v) a1 a2 (fun hno => ?_) (fun r hr hrn ex hs => mod r _ hr ex _ _ _ _ (fun q => by omega) (fun _ _ => ⟨hh, rfl⟩) (fun _ q => by omega)) (fun r R' P' L' N' hr hrn ex hs hC => mod r _ hr ex _ _ _ _ (fun q => by omega) (fun _ q => by omega) (fun _ _ => ⟨rfl, fun lp' rp' hM => hK _ _ _ _ _ _ _ _ _ _ _ _ ⟨⟨_, _, _, a1.app hr hrn hs ⟨hv1, hv⟩, hC, hM⟩, h.2⟩⟩))
    by_cases q : 0 ≤ x2 ∧ x2 ≤ 8
    · obtain ⟨r, hr, ex⟩ := n_of_le (show (8 : Int32) = nI 8 from rfl) (by omega) q.1 q.2
      have hnr : n < r := by
        rcases Nat.lt_or_ge n r with z | z
        · exact z
        · exact absurd ex (hno r (by omega) z)
      exact mod r _ (by omega) ex _ _ _ _ (fun _ => ⟨hh, rfl⟩) (fun z => by omega) (fun z => by omega)
    · unfold p_X5_lay
      exact m_inT (a := 0) c (z1 (m_inT (a := 1) c3 (z1 (m_inF (a := 0) q (z0 (fin_eq rfl hh))))))
  · have mod : ∀ r (A : Int32), r < 9 → x2 = nI r → ∀ bR' bP' bL' bN', (n' < r → K aR aP aL aN bR' bP' bL' bN' lp lq rp rq ∧ A = -1) → (r ≤ n' → sm l' = 40 → K aR aP aL aN bR' bP' bL' bN' lp lq rp rq ∧ A = -3) → (r ≤ n' → sm l' < 40 → A = nI (l' r + 1) ∧ ∀ lq' rq', ML (lS l' r) (eS l' e' r v) lq' rq' → K aR aP aL aN bR' bP' bL' bN' lp lq' rp rq') → p_X5_lay lp lq rp rq x1 x2 (nI v) (fun r' lp' lq' rp' rq' => (A = r' → K aR aP aL aN bR' bP' bL' bN' lp' lq' rp' rq') ∧ (¬ A = r' → False)) := by
      intro r A hr ex bR' bP' bL' bN' k1 k2 k3
      subst ex
      unfold p_X5_lay
      refine m_inT (a := 0) c (z1 (m_inT (a := 1) c3 (z1 (m_inT (a := 0) (h8 r hr) (z1 ⟨fun q => absurd q e0, fun _ => ⟨fun q => absurd q e0, fun _ => ?_⟩⟩)))))
      exact m_lay1 (post := fun r' lq' rq' => (A = r' → K aR aP aL aN bR' bP' bL' bN' lp lq' rp rq') ∧ (¬ A = r' → False)) b1 b3 hr (fun q => fin_eq (k1 q).2 (k1 q).1) (fun q q2 => fin_eq (k2 q q2).2 (k2 q q2).1) (fun q q2 la' ro' hM => fin_eq (k3 q q2).1 ((k3 q q2).2 la' ro' hM))
    refine x_lay1 (v := v) b1 b2 (fun hno => ?_) (fun r hr hrn ex hs => mod r _ hr ex _ _ _ _ (fun q => by omega) (fun _ _ => ⟨hh, rfl⟩) (fun _ q => by omega)) (fun r R' P' L' N' hr hrn ex hs hC => mod r _ hr ex _ _ _ _ (fun q => by omega) (fun _ q => by omega) (fun _ _ => ⟨rfl, fun lp' rp' hM => hK _ _ _ _ _ _ _ _ _ _ _ _ ⟨h.1, ⟨_, _, _, b1.app hr hrn hs ⟨hv1, hv⟩, hC, hM⟩⟩⟩))
    by_cases q : 0 ≤ x2 ∧ x2 ≤ 8
    · obtain ⟨r, hr, ex⟩ := n_of_le (show (8 : Int32) = nI 8 from rfl) (by omega) q.1 q.2
      have hnr : n' < r := by
        rcases Nat.lt_or_ge n' r with z | z
        · exact z
        · exact absurd ex (hno r (by omega) z)
      exact mod r _ (by omega) ex _ _ _ _ (fun _ => ⟨hh, rfl⟩) (fun z => by omega) (fun z => by omega)
    · unfold p_X5_lay
      exact m_inT (a := 0) c (z1 (m_inT (a := 1) c3 (z1 (m_inF (a := 0) q (z0 (fin_eq rfl hh))))))
theorem st_unlay {aR aP bR bP : Int32} {aL bL lp lq rp rq : Nat → Int32} {aN bN : Nat → Nat → Int32} (h : IL aR aP aL aN bR bP bL bN lp lq rp rq) {K : Int32 → Int32 → (Nat → Int32) → Int32 → Int32 → (Nat → Int32) → (Nat → Int32) → (Nat → Int32) → Prop} (hK : ∀ aR' aP' aL' bR' bP' bL' rp' rq', IL aR' aP' aL' aN bR' bP' bL' bN lp lq rp' rq' → K aR' aP' aL' bR' bP' bL' rp' rq') :
    p_X4_unlay aR aP aL bR bP bL (fun r aR' aP' aL' bR' bP' bL' => p_X5_unlay rp rq (fun r' rp' rq' => (r = r' → K aR' aP' aL' bR' bP' bL' rp' rq') ∧ (¬ r = r' → False))) := by
  obtain ⟨⟨l, e, n, a1, a2, a3⟩, ⟨l', e', n', b1, b2, b3⟩⟩ := h
  unfold p_X4_unlay p_X2_placeCount p_X5_unlay
  refine x_empty (fun L hL => x_empty (fun L' hL' => m_total (fun r hr => (a3 r hr).1) (m_total (fun r hr => (b3 r hr).1) ?_)))
  refine pk_loop (fun u r (s : (Nat → Int32) × (Nat → Int32)) => p_X5_unlay_18 _ u s.1 s.2 (nI (sm l) + nI (sm l')) (nI r)) (fun r s => ∀ i, i < r → s.1 i = 0 ∧ s.2 i = 0) 9 0 (rp, rq) (by omega) (fun i hi => absurd hi (Nat.not_lt_zero i)) (fun u s hs => ?_) (fun u r s hr hs ih => ?_)
  · show p_X5_unlay_18 _ _ _ _ _ _
    unfold p_X5_unlay_18
    exact pk_le 9 9 (fun _ => fin_eq (by rw [a2.2.1, b2.2.1]) (hK _ _ _ _ _ _ _ _ ⟨IT_0 hL (fun r hr => (hs r hr).1), IT_0 hL' (fun r hr => (hs r hr).2)⟩)) (fun q => by omega)
  · show p_X5_unlay_18 _ _ _ _ _ _
    unfold p_X5_unlay_18
    rw [nI_clamp (by omega), nI_1]
    have hr9 : vp_in (nI r) 9 := pk_in r 9 hr
    refine pk_le 9 r (fun q => by omega) (fun _ => ⟨hr9, hr9, ih (upd s.1 r 0, upd s.2 r 0) (fun i hi => ?_)⟩)
    dsimp only
    rw [upd_at, upd_at]
    by_cases z : i = r
    · rw [if_pos z, if_pos z]; exact ⟨rfl, rfl⟩
    · rw [if_neg z, if_neg z]; exact hs i (by omega)
