/-! chance: the reference adds a place -/
def sN (f : Nat → Nat) : Nat → Nat
  | 0 => 0
  | n + 1 => sN f n + f n
theorem sN_congr {f g : Nat → Nat} : ∀ n, (∀ j, j < n → f j = g j) → sN f n = sN g n
  | 0, _ => rfl
  | n + 1, h => by
    show sN f n + f n = sN g n + g n
    rw [sN_congr n (fun j hj => h j (by omega)), h n (by omega)]
theorem sN_add {f g : Nat → Nat} : ∀ n, sN (fun j => f j + g j) n = sN f n + sN g n
  | 0 => rfl
  | n + 1 => by
    show sN (fun j => f j + g j) n + (f n + g n) = sN f n + f n + (sN g n + g n)
    rw [sN_add n]; omega
theorem sN_zero {f : Nat → Nat} : ∀ n, (∀ j, j < n → f j = 0) → sN f n = 0
  | 0, _ => rfl
  | n + 1, h => by
    show sN f n + f n = 0
    rw [sN_zero n (fun j hj => h j (by omega)), h n (by omega)]
theorem sN_one {f : Nat → Nat} {i : Nat} : ∀ n, i < n → (∀ j, j < n → j ≠ i → f j = 0) → sN f n = f i
  | 0, h, _ => absurd h (Nat.not_lt_zero i)
  | n + 1, h, h0 => by
    show sN f n + f n = f i
    by_cases e : i = n
    · subst e
      rw [sN_zero i (fun j hj => h0 j (by omega) (by omega))]; omega
    · rw [sN_one n (by omega) (fun j hj hne => h0 j (by omega) hne), h0 n (by omega) (by omega)]; omega
theorem sN_le {f : Nat → Nat} {M : Nat} : ∀ n, (∀ j, j < n → f j ≤ M) → sN f n ≤ n * M
  | 0, _ => Nat.zero_le _
  | n + 1, h => by
    show sN f n + f n ≤ (n + 1) * M
    have := sN_le n (fun j hj => h j (by omega))
    have := h n (by omega)
    rw [Nat.succ_mul]; omega
def pw (col : Nat) : Nat := if col = 0 then 1 else if col = 1 then 9 else 81
def dg (s col : Nat) : Nat := s / pw col % 9
def lf (s col : Nat) : Nat := if col = 0 then 0 else dg s (col - 1)
theorem pw_0 : pw 0 = 1 := rfl
theorem pw_1 : pw 1 = 9 := rfl
theorem pw_2 : pw 2 = 81 := rfl
theorem dg_0 (s : Nat) : dg s 0 = s % 9 := by show s / 1 % 9 = _; rw [Nat.div_one]
theorem dg_1 (s : Nat) : dg s 1 = s / 9 % 9 := rfl
theorem dg_2 (s : Nat) : dg s 2 = s / 81 % 9 := rfl
theorem lf_0 (s : Nat) : lf s 0 = 0 := rfl
theorem lf_1 (s : Nat) : lf s 1 = s % 9 := dg_0 s
theorem lf_2 (s : Nat) : lf s 2 = s / 9 % 9 := rfl
theorem c3 {col : Nat} (h : col < 3) : col = 0 ∨ col = 1 ∨ col = 2 := by omega
theorem dg_lt (s col : Nat) : dg s col < 9 := Nat.mod_lt _ (by decide)
theorem dg_le {s col : Nat} (hc : col < 3) : dg s col * pw col ≤ s := by
  rcases c3 hc with rfl | rfl | rfl
  · simp only [dg_0, pw_0]; omega
  · simp only [dg_1, pw_1]; omega
  · simp only [dg_2, pw_2]; omega
theorem src_ok {s col o : Nat} (hc : col < 3) (hs : s < 729) (ho : o < 9) : s - dg s col * pw col + o * pw col < 729 ∧ dg (s - dg s col * pw col + o * pw col) col = o ∧ lf (s - dg s col * pw col + o * pw col) col = lf s col := by
  rcases c3 hc with rfl | rfl | rfl
  · refine ⟨?_, ?_, rfl⟩ <;> simp only [dg_0, pw_0] <;> omega
  · simp only [dg_1, pw_1, lf_1]; omega
  · simp only [dg_2, pw_2, lf_2]; omega
theorem to_ok {S col H : Nat} (hc : col < 3) (hS : S < 729) (hH : dg S col ≤ H) (h8 : H ≤ 8) : S + (H - dg S col) * pw col < 729 ∧ dg (S + (H - dg S col) * pw col) col = H ∧ S + (H - dg S col) * pw col + dg S col * pw col = S + H * pw col := by
  rcases c3 hc with rfl | rfl | rfl
  · simp only [dg_0, pw_0] at *; omega
  · simp only [dg_1, pw_1] at *; omega
  · simp only [dg_2, pw_2] at *; omega
theorem uni_ok {S s t col : Nat} (e1 : s + dg S col * pw col = S + dg s col * pw col) (e2 : t + dg S col * pw col = S + dg t col * pw col) (e : dg s col = dg t col) : s = t := by
  rw [e] at e1; omega
/-- gathered -/
def gA (A : Nat → Nat) (col k s : Nat) : Nat := if k < dg s col ∨ dg s col < lf s col then 0 else sN (fun o => A (s - dg s col * pw col + o * pw col) / 2 ^ (dg s col - max o (lf s col))) (dg s col + 1)
/-- gathered from the first S -/
def gP (A : Nat → Nat) (col k S s : Nat) : Nat := if k < dg s col ∨ dg s col < lf s col then 0 else sN (fun o => if s - dg s col * pw col + o * pw col < S then A (s - dg s col * pw col + o * pw col) / 2 ^ (dg s col - max o (lf s col)) else 0) (dg s col + 1)
/-- what S gives to s -/
def cT (A : Nat → Nat) (col k S s : Nat) : Nat := if s + dg S col * pw col = S + dg s col * pw col ∧ max (dg S col) (lf S col) ≤ dg s col ∧ dg s col ≤ k then A S / 2 ^ (dg s col - max (dg S col) (lf S col)) else 0
theorem gP_0 (A : Nat → Nat) (col k s : Nat) : gP A col k 0 s = 0 := by
  unfold gP
  split
  · rfl
  · exact sN_zero _ (fun j _ => if_neg (Nat.not_lt_zero _))
theorem gP_all {A : Nat → Nat} {col k s : Nat} (hc : col < 3) (hs : s < 729) : gP A col k 729 s = gA A col k s := by
  unfold gP gA
  split
  · rfl
  · have := dg_lt s col
    exact sN_congr _ (fun j hj => if_pos (src_ok hc hs (by omega)).1)
theorem gP_s {A : Nat → Nat} {col k S s : Nat} (hc : col < 3) (hs : s < 729) : gP A col k (S + 1) s = gP A col k S s + cT A col k S s := by
  have h9 := dg_lt s col
  have hle := dg_le (s := s) hc
  have own : ∀ o, o < 9 → s - dg s col * pw col + o * pw col = S → dg S col = o ∧ lf S col = lf s col := fun o ho e => by
    have := src_ok hc hs ho
    rw [e] at this
    exact ⟨this.2.1, this.2.2⟩
  have hit : s + dg S col * pw col = S + dg s col * pw col → s - dg s col * pw col + dg S col * pw col = S := fun e => by omega
  unfold gP
  by_cases q : k < dg s col ∨ dg s col < lf s col
  · rw [if_pos q, if_pos q]
    unfold cT
    rw [if_neg]
    rintro ⟨e1, e2, e3⟩
    have := (own _ (dg_lt S col) (hit e1)).2
    omega
  · rw [if_neg q, if_neg q]
    have e : sN (fun o => if s - dg s col * pw col + o * pw col < S + 1 then A (s - dg s col * pw col + o * pw col) / 2 ^ (dg s col - max o (lf s col)) else 0) (dg s col + 1) = sN (fun o => (if s - dg s col * pw col + o * pw col < S then A (s - dg s col * pw col + o * pw col) / 2 ^ (dg s col - max o (lf s col)) else 0) + (if s - dg s col * pw col + o * pw col = S then A S / 2 ^ (dg s col - max o (lf s col)) else 0)) (dg s col + 1) := by
      refine sN_congr _ (fun o _ => ?_)
      by_cases z : s - dg s col * pw col + o * pw col = S
      · rw [if_pos (by omega), if_neg (by omega), if_pos z, z, Nat.zero_add]
      · rw [if_neg z]
        by_cases y : s - dg s col * pw col + o * pw col < S
        · rw [if_pos y, if_pos (by omega)]; rfl
        · rw [if_neg y, if_neg (by omega)]
    rw [e, sN_add]
    congr 1
    unfold cT
    by_cases z : s + dg S col * pw col = S + dg s col * pw col ∧ max (dg S col) (lf S col) ≤ dg s col ∧ dg s col ≤ k
    · rw [if_pos z]
      have hx := hit z.1
      have ho := own _ (dg_lt S col) hx
      rw [sN_one (i := dg S col) _ (by omega) (fun j hj hne => if_neg (fun y => hne (own j (by omega) y).1.symm)), if_pos hx, ho.2]
    · rw [if_neg z]
      refine sN_zero _ (fun o ho => if_neg (fun y => z ?_))
      have hh := own o (by omega) y
      rw [hh.1, hh.2]
      exact ⟨by omega, by omega, by omega⟩
theorem gA_le {A : Nat → Nat} {M col k s : Nat} (hc : col < 3) (hA : ∀ s, s < 729 → A s ≤ M) (hs : s < 729) : gA A col k s ≤ 9 * M := by
  unfold gA
  split
  · exact Nat.zero_le _
  · have := dg_lt s col
    refine Nat.le_trans (sN_le (M := M) _ (fun o ho => Nat.le_trans (Nat.div_le_self _ _) (hA _ (src_ok hc hs (by omega)).1))) (Nat.mul_le_mul_right M (by omega))
theorem gA_congr {A B : Nat → Nat} {col k s : Nat} (hc : col < 3) (h : ∀ s, s < 729 → A s = B s) (hs : s < 729) : gA A col k s = gA B col k s := by
  unfold gA
  split
  · rfl
  · have := dg_lt s col
    exact sN_congr _ (fun o ho => by rw [h _ (src_ok hc hs (by omega)).1])
theorem m_power {col : Nat} (hc : col < 3) {post : Int32 → Prop} (h : post (nI (pw col))) : p_X5_power (nI col) post := by
  unfold p_X5_power
  refine pk_eq col 0 (fun q => ?_) (fun q => pk_eq col 1 (fun q2 => ?_) (fun q2 => ?_))
  · subst q; exact h
  · subst q2; exact h
  · have : col = 2 := by omega
    subst this; exact h
theorem m_sh {a j : Nat} (ha : a < 2 ^ 62) (hj : j < 9) : lN a >>> ((nI j).toInt64 &&& 63) = lN (a / 2 ^ j) := by
  rw [wb_c j (by omega)]
  refine pf_shr ?_ ha
  rw [wb_tb, wb_sm j (by omega), BitVec.toNat_ofNat, Nat.mod_eq_of_lt (by omega)]
theorem lgz {a : Nat} (ha : a < 2 ^ 62) {A B : Prop} (f : a = 0 → A) (g : a ≠ 0 → B) : (lg_cmp (lN a) 0 ≤ 0 → A) ∧ (¬ lg_cmp (lN a) 0 ≤ 0 → B) := by
  by_cases h : a = 0
  · refine ⟨fun _ => f h, fun q => absurd ?_ q⟩
    subst h
    decide
  · refine ⟨fun q => absurd q ?_, fun _ => g h⟩
    have h1 : (0 : Int64) < lN a := (pk_lLT (a := 0) (by omega) (by omega)).mpr (by omega)
    unfold lg_cmp
    rw [if_pos h1]
    decide
theorem m_dg {S col : Nat} (hc : col < 3) (hS : S < 729) : nI S / nI (pw col) - nI S / nI (pw col) / 9 * 9 = nI (dg S col) := by
  have hp : 0 < pw col ∧ pw col < 2 ^ 31 := by
    rcases c3 hc with rfl | rfl | rfl
    · simp only [pw_0]; omega
    · simp only [pw_1]; omega
    · simp only [pw_2]; omega
  rw [pk_div (by omega) hp.1 hp.2]
  exact pk_rem (d := 9) (Nat.lt_of_le_of_lt (Nat.div_le_self _ _) (by omega)) (by omega) (by omega)
theorem m_add {A : Nat → Nat} {col k : Nat} (hc : col < 3) (hk : k ≤ 8) (hA : ∀ s, s < 729 → A s < 2 ^ 62) {no ne : Nat → Int64} (hno : ∀ s, s < 729 → no s = lN (A s)) {post : (Nat → Int64) → (Nat → Int64) → Prop} (h : ∀ no' ne', (∀ s, s < 729 → no' s = lN (gA A col k s)) → post no' ne') : p_X5_addPlace no ne (nI col) (nI k) post := by
  unfold p_X5_addPlace
  refine pk_loop (fun u s ne => p_X5_addPlace_2 (nI col) (nI k) post u no ne (nI s)) (fun s ne => ∀ i, i < s → ne i = 0) 729 0 ne (by omega) (fun i hi => absurd hi (Nat.not_lt_zero i)) (fun u ne1 hne => ?_) (fun u s ne1 hs hne ih => ?_)
  · show p_X5_addPlace_2 _ _ _ _ _ _ _
    unfold p_X5_addPlace_2
    refine pk_le 729 729 (fun _ => ?_) (fun q => by omega)
    refine pk_loop (fun u S ne => p_X5_addPlace_24 (nI col) (nI k) post u no ne (nI S)) (fun S ne => ∀ s, s < 729 → ne s = lN (gP A col k S s)) 729 0 ne1 (by omega) (fun s hs => by rw [gP_0, hne s hs]; rfl) (fun u ne2 hne2 => ?_) (fun u S ne2 hS hne2 ih => ?_)
    · show p_X5_addPlace_24 _ _ _ _ _ _ _
      unfold p_X5_addPlace_24
      refine pk_le 729 729 (fun _ => ?_) (fun q => by omega)
      refine pk_loop (fun u s no => p_X5_addPlace_139 (nI col) (nI k) post u no ne2 (nI s)) (fun s no => ∀ i, i < s → no i = lN (gA A col k i)) 729 0 no (by omega) (fun i hi => absurd hi (Nat.not_lt_zero i)) (fun u no2 hno2 => ?_) (fun u s no2 hs hno2 ih => ?_)
      · show p_X5_addPlace_139 _ _ _ _ _ _ _
        unfold p_X5_addPlace_139
        exact pk_le 729 729 (fun _ => h _ _ hno2) (fun q => by omega)
      · show p_X5_addPlace_139 _ _ _ _ _ _ _
        unfold p_X5_addPlace_139
        have hs7 : vp_in (nI s) 729 := pk_in s 729 hs
        rw [nI_1, nI_clamp (by omega), hne2 s hs, gP_all hc hs]
        refine pk_le 729 s (fun q => by omega) (fun _ => ⟨hs7, hs7, ih _ (fun i hi => ?_)⟩)
        rw [vL_at]
        by_cases z : i = s
        · rw [if_pos z, z]
        · rw [if_neg z]; exact hno2 i (by omega)
    · show p_X5_addPlace_24 _ _ _ _ _ _ _
      have nxt : ∀ ne3 : Nat → Int64, (∀ s, s < 729 → ne3 s = lN (gP A col k S s + cT A col k S s)) → p_X5_addPlace_131 (nI col) (nI k) post (fun no ne x3 => p_X5_addPlace_24 (nI col) (nI k) post u no ne x3) no ne3 (nI S) := by
        intro ne3 h3
        unfold p_X5_addPlace_131
        rw [nI_1]
        exact ih ne3 (fun s hs => by rw [h3 s hs, gP_s hc hs])
      have hAS := hA S hS
      have own9 := dg_lt S col
      have lf9 : lf S col < 9 := by
        unfold lf
        split
        · omega
        · exact dg_lt _ _
      have go : p_X5_addPlace_72 (nI col) (nI k) post (fun no ne x3 => p_X5_addPlace_24 (nI col) (nI k) post u no ne x3) no ne2 (nI S) (nI (dg S col)) (nI (lf S col)) := by
        unfold p_X5_addPlace_72
        refine m_greater ?_
        rw [mxI_n (by omega) (by omega)]
        have hle : ∃ least, least = max (dg S col) (lf S col) := ⟨_, rfl⟩
        obtain ⟨least, hleast⟩ := hle
        rw [← hleast]
        refine pk_loop (fun v H ne => p_X5_addPlace_87 (nI col) (nI k) post _ v no ne (nI S) (nI (dg S col)) (nI least) (nI H)) (fun H ne => least ≤ H ∧ ∀ s, s < 729 → ne s = lN (gP A col k S s + (if dg s col < H then cT A col k S s else 0))) (max (k + 1) least) least ne2 (by omega) ⟨Nat.le_refl _, fun s hs => ?_⟩ (fun v ne3 h3 => ?_) (fun v H ne3 hH h3 ih2 => ?_)
        · have e0 : (if dg s col < least then cT A col k S s else 0) = 0 := by
            by_cases z : dg s col < least
            · rw [if_pos z]
              unfold cT
              exact if_neg (fun y => by omega)
            · rw [if_neg z]
          rw [e0, Nat.add_zero]; exact hne2 s hs
        · show p_X5_addPlace_87 _ _ _ _ _ _ _ _ _ _ _
          unfold p_X5_addPlace_87
          refine pk_lt k (max (k + 1) least) (fun _ => nxt ne3 (fun s hs => ?_)) (fun q => by omega)
          rw [h3.2 s hs]
          congr 2
          by_cases z : dg s col < max (k + 1) least
          · rw [if_pos z]
          · rw [if_neg z]
            unfold cT
            exact (if_neg (fun y => by omega)).symm
        · show p_X5_addPlace_87 _ _ _ _ _ _ _ _ _ _ _
          unfold p_X5_addPlace_87
          obtain ⟨h4, h5⟩ := h3
          obtain ⟨t1, t2, t3⟩ := to_ok (H := H) hc hS (by omega) (by omega)
          refine pk_lt k H (fun q => by omega) (fun _ => m_power hc ?_)
          have ei : nI S + (nI H - nI (dg S col)) * nI (pw col) = nI (S + (H - dg S col) * pw col) := by rw [pk_sub (by omega), pk_mul, nI_add]
          rw [ei, pk_sub h4, nI_1, nI_clamp (by omega), nI_clamp (by omega), hno S hS, m_sh hAS (by omega), h5 _ t1, t2, if_neg (Nat.lt_irrefl H), Nat.add_zero, lN_add]
          have hin : vp_in (nI (S + (H - dg S col) * pw col)) 729 := pk_in (S + (H - dg S col) * pw col) 729 t1
          refine ⟨hin, pk_in S 729 hS, hin, ih2 _ ⟨by omega, fun s hs => ?_⟩⟩
          rw [vL_at]
          by_cases z : s = S + (H - dg S col) * pw col
          · rw [if_pos z, z, t2, if_pos (by omega)]
            congr 2
            unfold cT
            rw [t2, if_pos ⟨t3, by omega, by omega⟩, ← hleast]
          · rw [if_neg z, h5 s hs]
            congr 2
            by_cases y : dg s col < H
            · rw [if_pos y, if_pos (by omega)]
            · rw [if_neg y]
              by_cases x : dg s col < H + 1
              · rw [if_pos x]
                unfold cT
                refine (if_neg (fun g => z (uni_ok (S := S) (col := col) g.1 ?_ ?_))).symm
                · rw [t2]; exact t3
                · rw [t2]; omega
              · rw [if_neg x]
      unfold p_X5_addPlace_24
      have hp : 0 < pw col ∧ pw col < 2 ^ 31 := by
        rcases c3 hc with rfl | rfl | rfl
        · simp only [pw_0]; omega
        · simp only [pw_1]; omega
        · simp only [pw_2]; omega
      rw [nI_clamp (show S < 2 ^ 31 by omega), hno S hS]
      refine pk_le 729 S (fun q => by omega) (fun _ => ⟨pk_in S 729 hS, lgz hAS (fun z => nxt ne2 (fun s hs => ?_)) (fun z => m_power hc ⟨nI_ne0 hp.1 hp.2, by decide, ?_⟩)⟩)
      · rw [hne2 s hs]
        have : cT A col k S s = 0 := by
          unfold cT
          rw [z, Nat.zero_div]
          split <;> rfl
        rw [this, Nat.add_zero]
      · rw [m_dg hc hS]
        refine pk_eq col 0 (fun q => ?_) (fun q => ?_)
        · subst q; exact go
        · obtain ⟨j, rfl⟩ : ∃ j, col = j + 1 := ⟨col - 1, by omega⟩
          rw [nI_pred]
          refine m_power (by omega) ?_
          rw [m_dg (show j < 3 by omega) hS]
          have hp2 : 0 < pw j ∧ pw j < 2 ^ 31 := by
            rcases c3 (show j < 3 by omega) with rfl | rfl | rfl
            · simp only [pw_0]; omega
            · simp only [pw_1]; omega
            · simp only [pw_2]; omega
          refine ⟨nI_ne0 hp2.1 hp2.2, by decide, ?_⟩
          have el : lf S (j + 1) = dg S j := rfl
          rw [el] at go
          exact go
  · show p_X5_addPlace_2 _ _ _ _ _ _ _
    unfold p_X5_addPlace_2
    rw [nI_1, nI_clamp (by omega)]
    refine pk_le 729 s (fun q => by omega) (fun _ => ⟨pk_in s 729 hs, ih _ (fun i hi => ?_)⟩)
    rw [vL_at]
    by_cases z : i = s
    · rw [if_pos z]
    · rw [if_neg z]; exact hne i (by omega)
